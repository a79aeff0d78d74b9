/** Promises 12 to 15: seal and open, and box and unbox, which do the same by the key that two sides agree on. */
public final class SealTest {
    private static final int[] OUTS = {0, 16, 77, 112};
    private static final Check check = new Check();

    private final String sealing;
    private final String opening;
    private final Check.Call seal;
    private final Check.Call open;
    private final String key;

    /** With the two keys here, both ways seal and open by the same secret. */
    private SealTest(boolean boxed) {
        sealing = boxed ? "14 box" : "12 seal";
        opening = boxed ? "15 unbox" : "13 open";
        seal = boxed ? x -> x.box() : x -> x.seal();
        open = boxed ? x -> x.unbox() : x -> x.open();
        key = boxed ? Vectors.BOB_KEY : Vectors.AGREED;
    }

    public static void main(String[] args) {
        new SealTest(false).run();
        new SealTest(true).run();
        sealTakesNoPoint();
        openTakesNoPoint();
        boxTakesThePoint();
        boxOfNothing();
        unboxOnTheOtherSide();
        unboxTakesThePoint();
        check.end();
    }

    private void run() {
        sealsEveryLength();
        sealsUpToTheLength();
        sealsAnyBytes();
        sealsNoMoreThan96();
        opensEveryLength();
        opensUpToTheLength();
        opensNoFewerThan16();
        namesTheFirstException();
        opensNoOtherTag();
        opensNothingElseBehindTheTag();
        opensNoOtherLength();
        opensByNoOtherKeyOrNonce();
        opensAfterAWrongTag();
        opensWhatItSealed();
    }

    private NonceBox ready(int out) {
        NonceBox x = Boxes.busy(out);
        Boxes.fill(x, 0, key);
        Boxes.fill(x, 1, Vectors.NONCE);
        Boxes.fill(x, 2, Vectors.ALICE_POINT);
        return x;
    }

    private NonceBox readyWith(String text) {
        NonceBox x = ready(77);
        Boxes.fillText(x, text);
        return x;
    }

    private static String message(int n) {
        return Vectors.MESSAGE.substring(0, 2 * n);
    }

    private static String sealed(String text) {
        return Hex.of(Reference.sealedOf(Hex.ints(Vectors.AGREED), Hex.ints(Vectors.NONCE), Hex.ints(text)));
    }

    private void sealsEveryLength() {
        check.sentence(sealing + ": TEXT, 0 .. 96 bytes, sealed; answers the length of OUT");
        for (int n = 0; n <= 96; n++) {
            String due = sealed(message(n));
            check.same("what is hidden", due.substring(32), Vectors.HIDDEN.substring(0, 2 * n));
            check.gives("sealing " + n, readyWith(message(n)), seal, 16 + n, due);
        }
    }

    private void sealsUpToTheLength() {
        check.sentence(sealing + ": TEXT up to its length");
        for (int n : new int[] {0, 1, 15, 16, 17, 31, 32, 33, 95, 96}) {
            NonceBox x = ready(77);
            Boxes.fill(x, 3, message(n) + "c3".repeat(112 - n));
            Boxes.setLength(x, n);
            check.gives("sealing " + n + " of 112", x, seal, 16 + n, sealed(message(n)));
        }
    }

    private void sealsAnyBytes() {
        check.sentence(sealing + ": each byte, 0 .. 255, ^ that of the stream from its byte 32 on");
        for (String piece : new String[] {"00", "ff", "80", "7f"}) {
            for (int n : new int[] {1, 32, 33, 96}) {
                check.gives("sealing " + piece, readyWith(piece.repeat(n)), seal, 16 + n, sealed(piece.repeat(n)));
            }
        }
    }

    private void sealsNoMoreThan96() {
        check.sentence(sealing + ": IllegalArgumentException: TEXT has more than 96 bytes");
        for (int n = 97; n <= 112; n++) {
            for (int out : OUTS) {
                NonceBox x = ready(out);
                Boxes.setLength(x, n);
                check.throwing("sealing " + n, x, seal, IllegalArgumentException.class);
            }
        }
        NonceBox x = readyWith(message(96));
        Boxes.setLength(x, 97);
        check.throwing("sealing 97", x, seal, IllegalArgumentException.class);
        Boxes.setLength(x, 96);
        check.gives("sealing 96 after 97", x, seal, 112, sealed(message(96)));
    }

    private void opensEveryLength() {
        check.sentence(opening + ": TEXT, 16 .. 112 bytes, opened; answers the length of OUT");
        for (int n = 0; n <= 96; n++) {
            check.gives("opening " + n, readyWith(sealed(message(n))), open, n, message(n));
        }
    }

    private void opensUpToTheLength() {
        check.sentence(opening + ": TEXT up to its length");
        for (int n : new int[] {0, 1, 15, 16, 17, 31, 32, 33, 95, 96}) {
            NonceBox x = ready(77);
            Boxes.fill(x, 3, sealed(message(n)) + "c3".repeat(96 - n));
            Boxes.setLength(x, 16 + n);
            check.gives("opening " + n + " with more behind", x, open, n, message(n));
        }
    }

    private void opensNoFewerThan16() {
        check.sentence(opening + ": IllegalArgumentException: TEXT has fewer than 16 bytes");
        for (int n = 0; n < 16; n++) {
            for (int out : OUTS) {
                NonceBox x = ready(out);
                Boxes.fill(x, 3, sealed(""));
                Boxes.setLength(x, n);
                check.throwing("opening " + n, x, open, IllegalArgumentException.class);
            }
        }
        check.gives("opening 16", readyWith(sealed("")), open, 0, "");
    }

    private void namesTheFirstException() {
        check.sentence(opening + ": the exception named first is the one if several would do");
        check.throwing("15 wrong bytes", readyWith("00".repeat(15)), open, IllegalArgumentException.class);
        check.throwing("no bytes", readyWith(""), open, IllegalArgumentException.class);
        check.throwing("16 wrong bytes", readyWith("00".repeat(16)), open, IllegalStateException.class);
        check.throwing("112 wrong bytes", readyWith("00".repeat(112)), open, IllegalStateException.class);
    }

    private void opensNoOtherTag() {
        check.sentence(opening + ": IllegalStateException: the tag is wrong, by any bit of it");
        for (int n : new int[] {0, 17, 96}) {
            for (int bit = 0; bit < 128; bit++) {
                NonceBox x = readyWith(Hex.flipped(sealed(message(n)), bit));
                check.throwing("bit " + bit + " of the tag of " + n, x, open, IllegalStateException.class);
            }
        }
        // Each byte is wrong by the same bit: differences that are joined in a wrong way would cancel out.
        int[] all = Hex.ints(sealed(message(40)));
        for (int i = 0; i < 16; i++) {
            all[i] ^= 128;
        }
        check.throwing("all bytes of the tag", readyWith(Hex.of(all)), open, IllegalStateException.class);
        for (int out : OUTS) {
            NonceBox x = ready(out);
            Boxes.fillText(x, Hex.flipped(sealed(message(20)), 127));
            check.throwing("a wrong tag with " + out + " bytes in OUT", x, open, IllegalStateException.class);
        }
    }

    private void opensNothingElseBehindTheTag() {
        check.sentence(opening + ": IllegalStateException: the tag is wrong for what it hid");
        for (int bit = 128; bit < 8 * 33; bit++) {
            NonceBox x = readyWith(Hex.flipped(sealed(message(17)), bit));
            check.throwing("bit " + bit, x, open, IllegalStateException.class);
        }
        for (int i = 16; i < 112; i++) {
            NonceBox x = readyWith(Hex.flipped(sealed(message(96)), 8 * i + i % 8));
            check.throwing("byte " + i + " of 112", x, open, IllegalStateException.class);
        }
    }

    private void opensNoOtherLength() {
        check.sentence(opening + ": IllegalStateException: TEXT is shorter or longer than it was");
        for (int length = 16; length <= 112; length++) {
            if (length != 33) {
                NonceBox x = ready(77);
                Boxes.fill(x, 3, sealed(message(17)) + "00".repeat(79));
                Boxes.setLength(x, length);
                check.throwing("33 bytes as " + length, x, open, IllegalStateException.class);
            }
        }
    }

    private void opensByNoOtherKeyOrNonce() {
        check.sentence(opening + ": IllegalStateException: KEY or NONCE is another");
        for (int bit = 0; bit < 192; bit++) {
            NonceBox x = readyWith(sealed(message(17)));
            Boxes.fill(x, 1, Hex.flipped(Vectors.NONCE, bit));
            check.throwing("bit " + bit + " of NONCE", x, open, IllegalStateException.class);
        }
        // Bits that count in a number of the curve as well.
        for (int bit = 3; bit < 254; bit++) {
            NonceBox x = readyWith(sealed(message(17)));
            Boxes.fill(x, 0, Hex.flipped(key, bit));
            check.throwing("bit " + bit + " of KEY", x, open, IllegalStateException.class);
        }
    }

    private void opensAfterAWrongTag() {
        check.sentence(opening + ": a call that throws changes nothing: the next one opens");
        NonceBox x = readyWith(Hex.flipped(sealed(message(50)), 0));
        check.throwing("a wrong tag", x, open, IllegalStateException.class);
        Boxes.setLength(x, 15);
        check.throwing("too short", x, open, IllegalArgumentException.class);
        Boxes.fillText(x, sealed(message(50)));
        check.gives("the right one", x, open, 50, message(50));
    }

    private void opensWhatItSealed() {
        check.sentence(opening + ": OUT becomes what was sealed so that TEXT came of it");
        for (int n = 0; n <= 96; n++) {
            NonceBox x = Boxes.busy(0);
            String text = Boxes.bytes(x, 3, n);
            Boxes.setLength(x, n);
            check.same("sealing " + n, Check.answer(x, seal), 16 + n);
            check.same("moving it", x.move(3), true);
            check.gives("opening it", x, open, n, text);
        }
    }

    private static void sealTakesNoPoint() {
        check.sentence("12 seal: by KEY and NONCE alone");
        SealTest by = new SealTest(false);
        NonceBox x = by.readyWith(message(20));
        Boxes.fill(x, 2, "00".repeat(32));
        check.gives("with another point", x, by.seal, 36, sealed(message(20)));
    }

    private static void openTakesNoPoint() {
        check.sentence("13 open: by KEY and NONCE alone");
        SealTest by = new SealTest(false);
        NonceBox x = by.readyWith(sealed(message(20)));
        Boxes.fill(x, 2, "00".repeat(32));
        check.gives("with another point", x, by.open, 20, message(20));
        x = new SealTest(true).readyWith(sealed(message(20)));
        check.throwing("what was boxed", x, by.open, IllegalStateException.class);
    }

    private static String boxed(String key, String point, String text) {
        int[] agreed = Reference.agreedOf(Hex.ints(key), Hex.ints(point));
        return Hex.of(Reference.sealedOf(agreed, Hex.ints(Vectors.NONCE), Hex.ints(text)));
    }

    private static void boxTakesThePoint() {
        check.sentence("14 box: by AGREED of KEY and POINT as they are now");
        SealTest by = new SealTest(true);
        NonceBox x = by.readyWith(message(20));
        check.gives("the first point", x, by.seal, 36, sealed(message(20)));
        Boxes.fill(x, 2, Vectors.BOB_POINT);
        check.gives("another point", x, by.seal, 36, boxed(Vectors.BOB_KEY, Vectors.BOB_POINT, message(20)));
        Boxes.fill(x, 0, Vectors.ALICE_KEY);
        check.gives("another key", x, by.seal, 36, sealed(message(20)));
    }

    private static void boxOfNothing() {
        check.sentence("14 box: of a point whose MULTIPLE is 0 as of any other");
        SealTest by = new SealTest(true);
        for (String point : new String[] {"00".repeat(32), "01" + "00".repeat(31), "ed" + "ff".repeat(30) + "7f"}) {
            NonceBox x = by.readyWith(message(20));
            Boxes.fill(x, 2, point);
            int[] agreed = Reference.mixOf(new int[32], new int[16]);
            String due = Hex.of(Reference.sealedOf(agreed, Hex.ints(Vectors.NONCE), Hex.ints(message(20))));
            check.gives("box", x, by.seal, 36, due);
            x.move(3);
            check.gives("unbox", x, by.open, 20, message(20));
        }
    }

    private static void unboxOnTheOtherSide() {
        check.sentence("15 unbox: one side opens what the other has boxed");
        for (int n : new int[] {0, 1, 95, 96}) {
            NonceBox alice = new SealTest(true).readyWith(message(n));
            Boxes.fill(alice, 0, Vectors.ALICE_KEY);
            Boxes.fill(alice, 2, Vectors.BOB_POINT);
            check.same("Alice", Check.answer(alice, x -> x.box()), 16 + n);
            NonceBox bob = new SealTest(true).readyWith(Boxes.out(alice));
            check.gives("Bob", bob, x -> x.unbox(), n, message(n));
        }
    }

    private static void unboxTakesThePoint() {
        check.sentence("15 unbox: by AGREED of KEY and POINT, of which the bits count that MULTIPLE takes");
        SealTest by = new SealTest(true);
        for (int bit = 0; bit < 256; bit++) {
            NonceBox x = by.readyWith(sealed(message(17)));
            Boxes.fill(x, 2, Hex.flipped(Vectors.ALICE_POINT, bit));
            if (bit == 255) {
                check.gives("bit 255 of POINT", x, by.open, 17, message(17));
            } else {
                check.throwing("bit " + bit + " of POINT", x, by.open, IllegalStateException.class);
            }
        }
        for (int bit : new int[] {0, 1, 2, 254, 255}) {
            NonceBox x = by.readyWith(sealed(message(17)));
            Boxes.fill(x, 0, Hex.flipped(Vectors.BOB_KEY, bit));
            check.gives("bit " + bit + " of KEY", x, by.open, 17, message(17));
        }
    }
}
