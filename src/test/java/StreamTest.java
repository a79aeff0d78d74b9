/** Promises 7 and 8: mix and stream. */
public final class StreamTest {
    private static final Check check = new Check();

    public static void main(String[] args) {
        mixAsPublished();
        mixTakesSixteenBytesOfNonce();
        mixTakesEveryBitOfKey();
        mixWraps();
        streamAsPublished();
        streamOfEveryLength();
        streamTakesEveryBitOfNonce();
        streamTakesEveryByteOfKey();
        streamWraps();
        streamRefusesTheRest();
        check.end();
    }

    private static NonceBox by(String key, String nonce) {
        NonceBox x = Boxes.busy();
        Boxes.fill(x, 0, key);
        Boxes.fill(x, 1, nonce);
        return x;
    }

    private static void mixIs(String key, String nonce, String due) {
        check.gives("mix of " + key + " and " + nonce, by(key, nonce), Check.MIX, Check.DONE, due);
    }

    private static String mixOf(String key, String nonce) {
        return Hex.of(Reference.mixOf(Hex.ints(key), Hex.ints(nonce.substring(0, 32))));
    }

    private static void streamIs(String key, String nonce, int n) {
        String due = Hex.of(Reference.streamOf(Hex.ints(key), Hex.ints(nonce), n));
        check.gives("stream(" + n + ") of " + key + " and " + nonce, by(key, nonce), x -> x.stream(n), true, due);
    }

    private static void mixAsPublished() {
        check.sentence("7 mix: OUT becomes MIX");
        mixIs(Vectors.SHARED, "00".repeat(24), Vectors.AGREED);
        mixIs(Vectors.AGREED, Vectors.NONCE, Vectors.STREAM_KEY);
    }

    private static void mixTakesSixteenBytesOfNonce() {
        check.sentence("7 mix: of the first 16 bytes of NONCE");
        for (int bit = 0; bit < 192; bit++) {
            String nonce = Hex.flipped(Vectors.NONCE, bit);
            String due = bit < 128 ? mixOf(Vectors.AGREED, nonce) : Vectors.STREAM_KEY;
            check.that("bit " + bit + " counts", bit >= 128 || !due.equals(Vectors.STREAM_KEY));
            mixIs(Vectors.AGREED, nonce, due);
        }
    }

    private static void mixTakesEveryBitOfKey() {
        check.sentence("7 mix: of KEY, 32 bytes");
        for (int bit = 0; bit < 256; bit++) {
            String key = Hex.flipped(Vectors.AGREED, bit);
            mixIs(key, Vectors.NONCE, mixOf(key, Vectors.NONCE));
        }
    }

    private static void mixWraps() {
        check.sentence("7 mix: sums and products of words wrap");
        for (String key : new String[] {"00", "ff", "80", "7f", "01"}) {
            for (String nonce : new String[] {"00", "ff", "80", "7f", "01"}) {
                mixIs(key.repeat(32), nonce.repeat(24), mixOf(key.repeat(32), nonce.repeat(24)));
            }
        }
    }

    private static void streamAsPublished() {
        check.sentence("8 stream: OUT becomes the first n bytes of the stream");
        check.gives("stream(32)", by(Vectors.AGREED, Vectors.NONCE), x -> x.stream(32), true, Vectors.STREAM);
    }

    private static void streamOfEveryLength() {
        check.sentence("8 stream: n bytes, 0 .. 112, one block behind the other");
        for (int n = 0; n <= 112; n++) {
            streamIs(Vectors.AGREED, Vectors.NONCE, n);
        }
    }

    private static void streamTakesEveryBitOfNonce() {
        check.sentence("8 stream: the first 16 bytes of NONCE in MIX, the last 8 in CORE");
        for (int bit = 0; bit < 192; bit++) {
            streamIs(Vectors.AGREED, Hex.flipped(Vectors.NONCE, bit), 112);
        }
    }

    private static void streamTakesEveryByteOfKey() {
        check.sentence("8 stream: of KEY, 32 bytes");
        for (int i = 0; i < 32; i++) {
            streamIs(Hex.flipped(Vectors.AGREED, 8 * i + i % 8), Vectors.NONCE, 112);
        }
    }

    private static void streamWraps() {
        check.sentence("8 stream: in CORE the words that were laid out are added, sums wrap");
        for (String key : new String[] {"00", "ff", "80"}) {
            for (String nonce : new String[] {"00", "ff", "80"}) {
                streamIs(key.repeat(32), nonce.repeat(24), 112);
            }
        }
    }

    private static void streamRefusesTheRest() {
        check.sentence("8 stream: false when n is not 0 .. 112");
        for (int n : new int[] {-1, 113, -2, 114, 127, 128, 129, 256, Integer.MIN_VALUE, Integer.MAX_VALUE}) {
            for (int before : new int[] {0, 77, 112}) {
                check.refused("stream(" + n + ")", Boxes.busy(before), x -> x.stream(n));
            }
        }
    }
}
