import java.util.Arrays;

/** Each promise of the document by itself: ordinary inputs, the edges it names, wrong inputs. */
public final class PromiseTest {
    // Published vectors: RFC 7748 (multiples), RFC 8439 (tags), "Cryptography in NaCl" (the others).
    private static final String BOB_KEY = "5dab087e624a8a4b79e17f8b83800ee66f3bb1292618b6fd1c2f8b27ff88e0eb";
    private static final String BOB_POINT = "de9edb7d7b7dc1b4d35b61c2ece435373f8343c85b78674dadfc7e146f882b4f";
    private static final String ALICE_POINT = "8520f0098930a754748b7ddcb43ef75a0dbf3a0d26381af4eba4a98eaa9b4e6a";
    private static final String SHARED = "4a5d9d5ba4ce2de1728e3bf480350f25e07e21c947d19e3376f09b3c1e161742";
    private static final String AGREED = "1b27556473e985d462cd51197a9a46c76009549eac6474f206c4ee0844f68389";
    private static final String NONCE = "69696ee955b62b73cd62bda875fc73d68219e0036b7a0b37";
    private static final String STREAM_KEY = "dc908dda0b9344a953629b733820778880f3ceb421bb61b91cbd4c3e66256ce4";
    private static final String STREAM = "eea6a7251c1e72916d11c2cb214d3c252539121d8e234e652d651fa4c8cff880";
    private static final String MESSAGE = "be075fc53c81f2d5cf141316ebeb0c7b5228c52a4c62cbd44b66849b64244ffc"
            + "e5ecbaaf33bd751a1ac728d45e6c61296cdc3c01233561f41db66cce314adb31"
            + "0e3be8250c46f06dceea3a7fa1348057e2f6556ad6b1318a024a838f21af1fde";
    private static final String HIDDEN = "8e993b9f48681273c29650ba32fc76ce48332ea7164d96a4476fb8c531a1186a"
            + "c0dfc17c98dce87b4da7f011ec48c97271d2c20f9b928fe2270d6fb863d51738"
            + "b48eeee314a7cc8ab932164548e526ae90224368517acfeabd6bb3732bc0e9da";

    private static final int[] ROOMS = {32, 24, 32, 112, 112};
    private static final int[] NO_BUFFERS = {-1, 5, 6, 8, 256, Integer.MIN_VALUE, Integer.MAX_VALUE};
    private static final Check check = new Check();

    public static void main(String[] args) {
        newObject();
        put();
        length();
        word();
        size();
        move();
        mix();
        stream();
        tag();
        multiply();
        agree();
        seal();
        open();
        box();
        unbox();
        check.end();
    }

    /** An object whose buffers are all full of bytes that differ; OUT has 77 bytes, TEXT 50. */
    private static NonceBox busy() {
        NonceBox x = new NonceBox();
        for (int buffer = 0; buffer < 4; buffer++) {
            for (int i = 0; i < ROOMS[buffer] / 8; i++) {
                x.put(buffer, i, (buffer * 14 + i + 1) * 0x9e3779b97f4a7c15L);
            }
        }
        x.length(50);
        x.stream(77);
        return x;
    }

    private static void refused(String call, NonceBox x, String before, boolean answer) {
        check.that(call + " answers false", !answer);
        check.that(call + " changes nothing", Check.state(x).equals(before));
    }

    private static int outcome(NonceBox x, String call) {
        try {
            switch (call) {
                case "seal": return x.seal();
                case "open": return x.open();
                case "box": return x.box();
                default: return x.unbox();
            }
        } catch (IllegalArgumentException e) {
            return -1;
        } catch (IllegalStateException e) {
            return -2;
        }
    }

    private static void throwsUnchanged(String call, NonceBox x, int kind) {
        String before = Check.state(x);
        check.same(call + " with " + x.size(3) + " bytes of text", outcome(x, call), kind);
        check.that(call + " that throws changes nothing", Check.state(x).equals(before));
    }

    /** OUT has the bytes that are due and 0 behind them; no other buffer has changed. */
    private static void becameOut(String call, NonceBox x, String before, String due) {
        check.same(call + ": size of OUT", x.size(4), due.length() / 2);
        check.same(call + ": OUT", Check.room(x, 4), due + "0".repeat(224 - due.length()));
        String[] parts = before.split(" ");
        String[] now = Check.state(x).split(" ");
        check.that(call + ": others stay", Arrays.equals(parts, 0, 4, now, 0, 4));
    }

    private static void newObject() {
        NonceBox x = new NonceBox();
        int[] sizes = {32, 24, 32, 0, 0};
        for (int buffer = 0; buffer < 5; buffer++) {
            check.same("new: size " + buffer, x.size(buffer), sizes[buffer]);
            check.same("new: bytes " + buffer, Check.room(x, buffer), "00".repeat(ROOMS[buffer]));
        }
        busy();
        check.same("objects share nothing", Check.state(new NonceBox()), Check.state(x));
    }

    private static void put() {
        for (int buffer = 0; buffer < 4; buffer++) {
            for (int i = 0; i < ROOMS[buffer] / 8; i++) {
                NonceBox x = busy();
                String before = Check.state(x);
                String old = Check.room(x, buffer);
                check.that("put(" + buffer + ", " + i + ")", x.put(buffer, i, 0x80ff7f0605040302L));
                String due = old.substring(0, 16 * i) + "020304" + "05067fff80" + old.substring(16 * i + 16);
                check.same("put into " + buffer, Check.state(x), before.replace(old, due));
            }
        }
        NonceBox x = busy();
        String before = Check.state(x);
        for (int buffer : NO_BUFFERS) {
            refused("put into " + buffer, x, before, x.put(buffer, 0, -1));
        }
        for (int i = 0; i < 14; i++) {
            refused("put into OUT", x, before, x.put(4, i, -1));
        }
        for (int buffer = 0; buffer < 5; buffer++) {
            for (int i : noRoomIn(buffer)) {
                refused("put(" + buffer + ", " + i + ")", x, before, x.put(buffer, i, -1));
            }
        }
    }

    /** Places outside a buffer, those among them whose eightfold wraps to one inside it. */
    private static int[] noRoomIn(int buffer) {
        return new int[] {ROOMS[buffer] / 8, ROOMS[buffer] / 8 + 1, -1, -2, 1 << 28, 1 << 29, (1 << 29) + 1,
            1 << 30, -(1 << 29), Integer.MIN_VALUE, Integer.MIN_VALUE + 1, Integer.MAX_VALUE};
    }

    private static void length() {
        NonceBox x = busy();
        String text = Check.room(x, 3);
        for (int n = 112; n >= 0; n--) {
            check.that("length(" + n + ")", x.length(n));
            check.same("size of TEXT", x.size(3), n);
            check.same("length leaves the bytes", Check.room(x, 3), text);
        }
        x.length(7);
        String before = Check.state(x);
        for (int n : new int[] {-1, 113, 128, 256, Integer.MIN_VALUE, Integer.MAX_VALUE}) {
            refused("length(" + n + ")", x, before, x.length(n));
        }
    }

    private static void word() {
        NonceBox x = new NonceBox();
        x.put(3, 13, -2);
        check.same("word behind the length", x.word(3, 13), -2L);
        x.put(0, 0, 0x0102030405060708L);
        check.same("word is lowest first", Check.bytes(x, 0, 8), "0807060504030201");
        x.put(0, 1, Long.MIN_VALUE);
        check.same("word with the top bit", x.word(0, 1), Long.MIN_VALUE);
        x.stream(9);
        check.same("a word that OUT has in part", x.word(4, 1) >>> 8, 0L);
        check.that("a word that OUT has whole", x.word(4, 0) != 0);
        check.same("a word that OUT has not", x.word(4, 13), 0L);
        NonceBox y = busy();
        for (int buffer : NO_BUFFERS) {
            check.same("word of " + buffer, y.word(buffer, 0), 0L);
        }
        for (int buffer = 0; buffer < 5; buffer++) {
            for (int i : noRoomIn(buffer)) {
                check.same("word(" + buffer + ", " + i + ")", y.word(buffer, i), 0L);
            }
        }
    }

    private static void size() {
        NonceBox x = busy();
        int[] sizes = {32, 24, 32, 50, 77};
        for (int buffer = 0; buffer < 5; buffer++) {
            check.same("size of " + buffer, x.size(buffer), sizes[buffer]);
        }
        for (int buffer : NO_BUFFERS) {
            check.same("size of " + buffer, x.size(buffer), NonceBox.NONE);
        }
    }

    private static void move() {
        for (int n = 0; n <= 112; n++) {
            for (int buffer = 0; buffer < 5; buffer++) {
                NonceBox x = busy();
                x.stream(n);
                moveOne(x, buffer, n);
            }
        }
        NonceBox x = busy();
        x.stream(32);
        String before = Check.state(x);
        for (int buffer : NO_BUFFERS) {
            refused("move(" + buffer + ")", x, before, x.move(buffer));
        }
    }

    private static void moveOne(NonceBox x, int buffer, int n) {
        String call = "move(" + buffer + ") of " + n;
        String before = Check.state(x);
        String old = Check.room(x, buffer);
        boolean answer = x.move(buffer);
        if (buffer != 3 && (n != 32 || buffer == 1 || buffer == 4)) {
            refused(call, x, before, answer);
            return;
        }
        check.that(call + " answers true", answer);
        String due = Check.bytes(x, 4, n) + old.substring(2 * n);
        String wanted = before.replace(old + "/" + (buffer == 3 ? 50 : 32), due + "/" + n);
        check.same(call, Check.state(x), wanted);
    }

    private static void mix() {
        NonceBox x = busy();
        Check.fill(x, 0, SHARED);
        Check.fill(x, 1, "00".repeat(16) + "ff".repeat(8));
        String before = Check.state(x);
        x.mix();
        becameOut("mix of zeros", x, before, AGREED);
        x.move(0);
        Check.fill(x, 1, NONCE);
        before = Check.state(x);
        x.mix();
        becameOut("mix of a nonce", x, before, STREAM_KEY);
    }

    private static void stream() {
        NonceBox x = busy();
        Check.fill(x, 0, AGREED);
        Check.fill(x, 1, NONCE);
        String before = Check.state(x);
        check.that("stream(112)", x.stream(112));
        String whole = Check.out(x);
        check.same("stream", whole.substring(0, 64), STREAM);
        String due = Check.hex(Reference.streamOf(Check.ints(AGREED), Check.ints(NONCE), 112));
        becameOut("stream(112)", x, before, due);
        for (int n = 111; n >= 0; n--) {
            check.that("stream(" + n + ")", x.stream(n));
            becameOut("stream(" + n + ")", x, before, whole.substring(0, 2 * n));
        }
        x.stream(5);
        String now = Check.state(x);
        for (int n : new int[] {-1, 113, 128, Integer.MIN_VALUE, Integer.MAX_VALUE}) {
            refused("stream(" + n + ")", x, now, x.stream(n));
        }
    }

    private static void tag() {
        tagIs("85d6be7857556d337f4452fe42d506a80103808afb0db2fd4abff6af4149f51b",
                "43727970746f6772617068696320466f72756d2052657365617263682047726f7570",
                "a8061dc1305136c6c22b8baf0c0127a9");
        String one = "01" + "00".repeat(31);
        String two = "02" + "00".repeat(31);
        tagIs(two, "ff".repeat(16), "03" + "00".repeat(15));
        tagIs("02" + "00".repeat(15) + "ff".repeat(16), "02" + "00".repeat(15), "03" + "00".repeat(15));
        tagIs(one, "ff".repeat(16) + "f0" + "ff".repeat(15) + "11" + "00".repeat(15), "05" + "00".repeat(15));
        tagIs(one, "ff".repeat(16) + "fb" + "fe".repeat(15) + "01".repeat(16), "00".repeat(16));
        tagIs(two, "fd" + "ff".repeat(15), "fa" + "ff".repeat(15));
        String split = "0100000000000000" + "0400000000000000" + "00".repeat(16);
        String three = "e33594d7505e43b900000000000000003394d7505e4379cd0100000000000000" + "00".repeat(16);
        tagIs(split, three + "01" + "00".repeat(15), "14000000000000005500000000000000");
        tagIs(split, three, "13" + "00".repeat(15));
        tagIs("ab".repeat(16) + "0123456789abcdef".repeat(2), "", "0123456789abcdef".repeat(2));
        for (int n = 0; n <= 112; n++) {
            String key = Check.bytes(busy(), 0, 32);
            tagAsReference(key, Check.bytes(busy(), 3, n));
            tagAsReference("ff".repeat(32), "ff".repeat(n));
            tagAsReference("ff".repeat(32), "00".repeat(n));
        }
        tagNearTheModulus();
    }

    /** With r = 1 the sum of the pieces is the tag: three that sum up to 2^130 - 5 + d. */
    private static void tagNearTheModulus() {
        for (int d = -3; d <= 8; d++) {
            // Three times 2^128 come of themselves; the pieces bring 2^128 - 5 + d.
            int last = d + 3;
            String pieces = "f8" + "ff".repeat(15) + String.format("%02x", last) + "00".repeat(15) + "00".repeat(16);
            tagAsReference("01" + "00".repeat(31), pieces);
            tagAsReference("01" + "00".repeat(15) + "ff".repeat(16), pieces);
        }
    }

    private static void tagAsReference(String key, String text) {
        tagIs(key, text, Check.hex(Reference.tagOf(Check.ints(key), Check.ints(text))));
    }

    private static void tagIs(String key, String text, String due) {
        NonceBox x = busy();
        Check.fill(x, 0, key);
        Check.fillText(x, text);
        String before = Check.state(x);
        x.tag();
        becameOut("tag of " + text, x, before, due);
    }

    private static void multiply() {
        multipleIs("a546e36bf0527c9d3b16154b82465edd62144c0ac1fc5a18506a2244ba449ac4",
                "e6db6867583030db3594c1a424b15f7c726624ec26b3353b10a903a6d0ab1c4c",
                "c3da55379de9c6908e94ea4df28d084f32eccf03491c71f754b4075577a28552");
        // The point of this vector has bit 255.
        multipleIs("4b66e9d4d1b4673c5ad22691957d6af5c11b6421e0ea01d42ca4169e7918ba0d",
                "e5210f12786811d3f4b7959d0538ae2c31dbe7106fc03c3efc4cd549c715a493",
                "95cbde9476e8907d7aade45cb4b873f88b595a68799fa152e6f8f7647aac7957");
        multipleIs(BOB_KEY, "09" + "00".repeat(31), BOB_POINT);
        multipleIs(BOB_KEY, ALICE_POINT, SHARED);
        multipleOfEdges();
        multipleWithFreeBits();
        multipleAgainAndAgain();
    }

    private static void multipleIs(String key, String point, String due) {
        NonceBox x = busy();
        Check.fill(x, 0, key);
        Check.fill(x, 2, point);
        String before = Check.state(x);
        x.multiply();
        becameOut("multiple of " + point, x, before, due);
    }

    /** Points round 0, p, 2^255 and 2^256; the ones of low order among them. */
    private static void multipleOfEdges() {
        String[] keys = {BOB_KEY, "00".repeat(32), "ff".repeat(32)};
        for (String key : keys) {
            for (int last : new int[] {0x00, 0x7f, 0x80, 0xff}) {
                for (int first = 0; first < 256; first += first == 2 ? 230 : 1) {
                    String middle = last % 128 == 0 ? "00".repeat(30) : "ff".repeat(30);
                    String point = String.format("%02x%s%02x", first, middle, last);
                    multipleIs(key, point, Check.hex(Reference.multipleOf(Check.ints(key), Check.ints(point))));
                }
            }
        }
        for (String zero : new String[] {"00".repeat(32), "ed" + "ff".repeat(30) + "7f", "01" + "00".repeat(31)}) {
            multipleIs(BOB_KEY, zero, "00".repeat(32));
        }
    }

    private static void multipleWithFreeBits() {
        NonceBox x = new NonceBox();
        Check.fill(x, 2, ALICE_POINT);
        int[] key = Check.ints(BOB_KEY);
        for (int low = 0; low < 8; low++) {
            for (int high = 0; high < 4; high++) {
                key[0] = key[0] & 248 | low;
                key[31] = key[31] & 63 | high << 6;
                Check.fill(x, 0, Check.hex(key));
                x.multiply();
                check.same("bits of the key that do not count", Check.out(x), SHARED);
            }
        }
    }

    /** The chain of RFC 7748; an object is used for 20 rounds of it, so that its calls stay under 512. */
    private static void multipleAgainAndAgain() {
        String key = "09" + "00".repeat(31);
        String point = key;
        NonceBox x = new NonceBox();
        for (int i = 1; i <= 1000; i++) {
            Check.fill(x, 0, key);
            Check.fill(x, 2, point);
            x.multiply();
            point = key;
            key = Check.out(x);
            if (i == 1) {
                check.same("once", key, "422c8e7a6227d7bca1350b3e2bb7279f7897b87bb6854b783c60e80311ae3079");
            }
            if (i % 20 == 0) {
                x = new NonceBox();
            }
        }
        check.same("1000 times", key, "684cf59ba83309552800ef566f2f4d3c1c3887c49360e3875f2eb94d99532c51");
    }

    private static void agree() {
        NonceBox x = busy();
        Check.fill(x, 0, BOB_KEY);
        Check.fill(x, 2, ALICE_POINT);
        Check.fill(x, 1, NONCE);
        String before = Check.state(x);
        x.agree();
        becameOut("agree", x, before, AGREED);
        x.agree();
        becameOut("agree again", x, before, AGREED);
    }

    private static NonceBox ready(boolean boxed) {
        NonceBox x = busy();
        Check.fill(x, 0, boxed ? BOB_KEY : AGREED);
        Check.fill(x, 1, NONCE);
        Check.fill(x, 2, ALICE_POINT);
        return x;
    }

    private static String sealed(int n) {
        int[] text = Check.ints(MESSAGE.substring(0, 2 * n));
        return Check.hex(Reference.sealedOf(Check.ints(AGREED), Check.ints(NONCE), text));
    }

    private static void seal() {
        sealsBy("seal", false);
    }

    private static void box() {
        sealsBy("box", true);
        NonceBox x = ready(true);
        x.seal();
        String bySeal = Check.out(x);
        x.box();
        check.that("box is not seal", !Check.out(x).equals(bySeal));
    }

    private static void sealsBy(String call, boolean boxed) {
        for (int n = 0; n <= 96; n++) {
            NonceBox x = ready(boxed);
            Check.fillText(x, MESSAGE);
            x.length(n);
            String before = Check.state(x);
            check.same(call + " of " + n, outcome(x, call), 16 + n);
            becameOut(call + " of " + n, x, before, sealed(n));
            check.same(call + ": what is hidden", Check.out(x).substring(32), HIDDEN.substring(0, 2 * n));
        }
        for (int n = 97; n <= 112; n++) {
            NonceBox x = ready(boxed);
            x.length(n);
            throwsUnchanged(call, x, -1);
        }
    }

    private static void open() {
        opensBy("open", false);
    }

    private static void unbox() {
        opensBy("unbox", true);
        NonceBox x = ready(true);
        Check.fillText(x, sealed(20));
        throwsUnchanged("open", x, -2);
        check.same("unbox of the same", outcome(x, "unbox"), 20);
    }

    private static void opensBy(String call, boolean boxed) {
        for (int n = 0; n <= 96; n++) {
            NonceBox x = ready(boxed);
            Check.fillText(x, sealed(n));
            String before = Check.state(x);
            check.same(call + " of " + n, outcome(x, call), n);
            becameOut(call + " of " + n, x, before, MESSAGE.substring(0, 2 * n));
        }
        for (int n = 0; n < 16; n++) {
            NonceBox x = ready(boxed);
            Check.fill(x, 3, sealed(30));
            x.length(n);
            throwsUnchanged(call, x, -1);
        }
        opensNothingChanged(call, boxed);
    }

    /** Each bit of the tag, of what it hid, of the key's side and of the nonce counts; so does the length. */
    private static void opensNothingChanged(String call, boolean boxed) {
        int n = 17;
        int[] right = Check.ints(sealed(n));
        for (int bit = 0; bit < 8 * right.length; bit++) {
            NonceBox x = ready(boxed);
            int[] text = right.clone();
            text[bit / 8] ^= 1 << bit % 8;
            Check.fillText(x, Check.hex(text));
            throwsUnchanged(call, x, -2);
        }
        for (int length = 16; length <= 112; length++) {
            if (length != 16 + n) {
                NonceBox x = ready(boxed);
                Check.fill(x, 3, sealed(n) + "00".repeat(112 - 16 - n));
                x.length(length);
                throwsUnchanged(call, x, -2);
            }
        }
        for (int buffer = 0; buffer < (boxed ? 3 : 2); buffer++) {
            for (int i = 0; i < ROOMS[buffer] / 8; i++) {
                NonceBox x = ready(boxed);
                Check.fillText(x, sealed(n));
                x.put(buffer, i, x.word(buffer, i) ^ 1L << 33);
                throwsUnchanged(call, x, -2);
            }
        }
    }
}
