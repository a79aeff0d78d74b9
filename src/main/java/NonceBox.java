import java.util.Arrays;

/**
 * Seals texts by a secret key, or by one that two sides work out of each other's points on a curve.
 *
 * Every row that a call works in is made with the object and used again: no call makes an object.
 */
public final class NonceBox {
    public static final int NONE = -1;

    private static final int KEY = 0;
    private static final int NONCE = 1;
    private static final int POINT = 2;
    private static final int TEXT = 3;
    private static final int OUT = 4;

    private static final int KEY_BYTES = 32;
    private static final int NONCE_BYTES = 24;
    private static final int TAG_BYTES = 16;
    private static final int MIX_INPUT_BYTES = 16;
    private static final int ROOM = 112;
    private static final int LONG_BYTES = 8;

    private final byte[] key = new byte[KEY_BYTES];
    private final byte[] nonce = new byte[NONCE_BYTES];
    private final byte[] point = new byte[KEY_BYTES];
    private final byte[] text = new byte[ROOM];
    private final byte[] out = new byte[ROOM];
    private int textLength = 0;
    private int outLength = 0;

    private final Mixer mixer = new Mixer();
    private final Tagger tagger = new Tagger();
    private final Curve curve = new Curve();
    private final byte[] agreedKey = new byte[KEY_BYTES];
    private final byte[] zeros = new byte[MIX_INPUT_BYTES];
    private final byte[] work = new byte[ROOM];

    public NonceBox() {
    }

    public boolean put(int buffer, int i, long w) {
        byte[] row = rowOf(buffer);
        if (buffer == OUT || !hasRoom(row, i)) {
            return false;
        }
        for (int b = 0; b < LONG_BYTES; b++) {
            row[LONG_BYTES * i + b] = (byte) (w >>> 8 * b);
        }
        return true;
    }

    public boolean length(int n) {
        if (n < 0 || n > ROOM) {
            return false;
        }
        textLength = n;
        return true;
    }

    public long word(int buffer, int i) {
        byte[] row = rowOf(buffer);
        if (!hasRoom(row, i)) {
            return 0;
        }
        long w = 0;
        for (int b = LONG_BYTES - 1; b >= 0; b--) {
            w = w << 8 | row[LONG_BYTES * i + b] & 255;
        }
        return w;
    }

    public int size(int buffer) {
        switch (buffer) {
            case KEY:
            case POINT:
                return KEY_BYTES;
            case NONCE:
                return NONCE_BYTES;
            case TEXT:
                return textLength;
            case OUT:
                return outLength;
            default:
                return NONE;
        }
    }

    public boolean move(int buffer) {
        if (buffer == TEXT) {
            System.arraycopy(out, 0, text, 0, outLength);
            textLength = outLength;
            return true;
        }
        if (outLength != KEY_BYTES || buffer != KEY && buffer != POINT) {
            return false;
        }
        System.arraycopy(out, 0, buffer == KEY ? key : point, 0, KEY_BYTES);
        return true;
    }

    public void mix() {
        mixer.mixInto(key, nonce, work);
        showWork(KEY_BYTES);
    }

    public boolean stream(int n) {
        if (n < 0 || n > ROOM) {
            return false;
        }
        System.arraycopy(mixer.streamOf(key, nonce, n), 0, work, 0, n);
        showWork(n);
        return true;
    }

    public void tag() {
        tagger.tagInto(key, text, 0, textLength, work);
        showWork(TAG_BYTES);
    }

    public void multiply() {
        curve.multipleInto(key, point, work);
        showWork(KEY_BYTES);
    }

    public void agree() {
        findAgreedKey();
        System.arraycopy(agreedKey, 0, work, 0, KEY_BYTES);
        showWork(KEY_BYTES);
    }

    public int seal() throws IllegalArgumentException {
        if (textLength > ROOM - TAG_BYTES) {
            throw new IllegalArgumentException("the text is too long to be sealed");
        }
        sealBy(key);
        return outLength;
    }

    public int open() throws IllegalArgumentException, IllegalStateException {
        if (textLength < TAG_BYTES) {
            throw new IllegalArgumentException("the text is too short to hold a tag");
        }
        if (!openBy(key)) {
            throw new IllegalStateException("the tag is wrong");
        }
        return outLength;
    }

    public int box() throws IllegalArgumentException {
        if (textLength > ROOM - TAG_BYTES) {
            throw new IllegalArgumentException("the text is too long to be sealed");
        }
        findAgreedKey();
        sealBy(agreedKey);
        return outLength;
    }

    public int unbox() throws IllegalArgumentException, IllegalStateException {
        if (textLength < TAG_BYTES) {
            throw new IllegalArgumentException("the text is too short to hold a tag");
        }
        findAgreedKey();
        if (!openBy(agreedKey)) {
            throw new IllegalStateException("the tag is wrong");
        }
        return outLength;
    }

    private byte[] rowOf(int buffer) {
        switch (buffer) {
            case KEY:
                return key;
            case NONCE:
                return nonce;
            case POINT:
                return point;
            case TEXT:
                return text;
            case OUT:
                return out;
            default:
                return null;
        }
    }

    // Divides instead of multiplying: 8 * i could wrap into the row again.
    private static boolean hasRoom(byte[] row, int i) {
        return row != null && i >= 0 && i < row.length / LONG_BYTES;
    }

    private void showWork(int n) {
        System.arraycopy(work, 0, out, 0, n);
        Arrays.fill(out, n, ROOM, (byte) 0);
        outLength = n;
    }

    private void findAgreedKey() {
        curve.multipleInto(key, point, agreedKey);
        mixer.mixInto(agreedKey, zeros, agreedKey);
    }

    private void sealBy(byte[] secret) {
        int n = textLength;
        byte[] stream = mixer.streamOf(secret, nonce, KEY_BYTES + n);
        for (int i = 0; i < n; i++) {
            work[TAG_BYTES + i] = (byte) (text[i] ^ stream[KEY_BYTES + i]);
        }
        tagger.tagInto(stream, work, TAG_BYTES, n, work);
        showWork(TAG_BYTES + n);
    }

    // OUT is touched only once the tag is known to be right.
    private boolean openBy(byte[] secret) {
        int n = textLength - TAG_BYTES;
        byte[] stream = mixer.streamOf(secret, nonce, KEY_BYTES + n);
        tagger.tagInto(stream, text, TAG_BYTES, n, work);
        if (!textBeginsAsWork()) {
            return false;
        }
        for (int i = 0; i < n; i++) {
            work[i] = (byte) (text[TAG_BYTES + i] ^ stream[KEY_BYTES + i]);
        }
        showWork(n);
        return true;
    }

    // Looks at every byte, so that the time taken does not tell where a wrong tag differs.
    private boolean textBeginsAsWork() {
        int difference = 0;
        for (int i = 0; i < TAG_BYTES; i++) {
            difference |= text[i] ^ work[i];
        }
        return difference == 0;
    }

    /** The rounds on sixteen words, and what is made with them: MIX, CORE and the stream. */
    private static final class Mixer {
        private static final int WORDS = 16;
        private static final int BLOCK_BYTES = 64;
        private static final int DOUBLE_ROUNDS = 10;
        // A sealed text takes 32 bytes for its tag's key and 96 to hide it.
        private static final int STREAM_BYTES = 128;
        private static final int NONCE_TAIL = 16;
        private static final int NONCE_TAIL_BYTES = 8;

        private final int[] laid = new int[WORDS];
        private final int[] words = new int[WORDS];
        private final byte[] streamKey = new byte[KEY_BYTES];
        private final byte[] place = new byte[MIX_INPUT_BYTES];
        private final byte[] stream = new byte[STREAM_BYTES];

        /** MIX of a key and the first 16 bytes of x; the answer may go where the key stands. */
        void mixInto(byte[] key, byte[] x, byte[] to) {
            layOut(key, x);
            turnRounds();
            for (int i = 0; i < 4; i++) {
                writeWord(words[5 * i], to, 4 * i);
                writeWord(words[6 + i], to, 16 + 4 * i);
            }
        }

        /** A row whose first n bytes are those of the stream, good until the next call. */
        byte[] streamOf(byte[] key, byte[] nonce, int n) {
            mixInto(key, nonce, streamKey);
            System.arraycopy(nonce, NONCE_TAIL, place, 0, NONCE_TAIL_BYTES);
            for (int block = 0; block < STREAM_BYTES / BLOCK_BYTES && block * BLOCK_BYTES < n; block++) {
                // The number of a block is 0 or 1: the bytes above its lowest stay 0.
                place[NONCE_TAIL_BYTES] = (byte) block;
                coreInto(block * BLOCK_BYTES);
            }
            return stream;
        }

        private void coreInto(int from) {
            layOut(streamKey, place);
            turnRounds();
            for (int i = 0; i < WORDS; i++) {
                writeWord(words[i] + laid[i], stream, from + 4 * i);
            }
        }

        private void layOut(byte[] key, byte[] x) {
            laid[0] = 1634760805;
            laid[5] = 857760878;
            laid[10] = 2036477234;
            laid[15] = 1797285236;
            for (int i = 0; i < 4; i++) {
                laid[1 + i] = readWord(key, 4 * i);
                laid[6 + i] = readWord(x, 4 * i);
                laid[11 + i] = readWord(key, 16 + 4 * i);
            }
            System.arraycopy(laid, 0, words, 0, WORDS);
        }

        private void turnRounds() {
            for (int round = 0; round < DOUBLE_ROUNDS; round++) {
                quarter(0, 4, 8, 12);
                quarter(5, 9, 13, 1);
                quarter(10, 14, 2, 6);
                quarter(15, 3, 7, 11);
                quarter(0, 1, 2, 3);
                quarter(5, 6, 7, 4);
                quarter(10, 11, 8, 9);
                quarter(15, 12, 13, 14);
            }
        }

        private void quarter(int p, int q, int r, int s) {
            words[q] ^= rotated(words[p] + words[s], 7);
            words[r] ^= rotated(words[q] + words[p], 9);
            words[s] ^= rotated(words[r] + words[q], 13);
            words[p] ^= rotated(words[s] + words[r], 18);
        }

        private static int rotated(int w, int n) {
            return w << n | w >>> 32 - n;
        }

        private static int readWord(byte[] row, int from) {
            return row[from] & 255 | (row[from + 1] & 255) << 8
                    | (row[from + 2] & 255) << 16 | (row[from + 3] & 255) << 24;
        }

        private static void writeWord(int w, byte[] row, int from) {
            for (int b = 0; b < 4; b++) {
                row[from + b] = (byte) (w >>> 8 * b);
            }
        }
    }

    /**
     * Remainders by 2^bits - low, as rows of limbs of 26 bits, the lowest first.
     *
     * Limbs are signed. What a method here answers has limbs under 2^27 either way, but for plus and
     * minus: these leave one bit more, which times and scale can take, so no carry is needed between.
     */
    private static final class Field {
        private static final int LIMB_BITS = 26;
        private static final long LIMB_MASK = (1L << LIMB_BITS) - 1;

        private final int limbs;
        private final int topBits;
        private final long low;
        private final long fold;
        private final long[] wide;

        Field(int bits, long low) {
            limbs = (bits + LIMB_BITS - 1) / LIMB_BITS;
            topBits = bits - LIMB_BITS * (limbs - 1);
            this.low = low;
            // What the first limb beyond a row counts for: 2^(26 * limbs) as a remainder.
            fold = low << LIMB_BITS - topBits;
            wide = new long[2 * limbs];
        }

        long[] newRow() {
            return new long[limbs];
        }

        void setTo(long[] x, int value) {
            Arrays.fill(x, 0);
            x[0] = value;
        }

        void copy(long[] x, long[] to) {
            System.arraycopy(x, 0, to, 0, limbs);
        }

        void plus(long[] x, long[] y, long[] to) {
            for (int i = 0; i < limbs; i++) {
                to[i] = x[i] + y[i];
            }
        }

        void minus(long[] x, long[] y, long[] to) {
            for (int i = 0; i < limbs; i++) {
                to[i] = x[i] - y[i];
            }
        }

        void scale(long[] x, int factor, long[] to) {
            for (int i = 0; i < limbs; i++) {
                to[i] = x[i] * factor;
            }
            foldTop(to);
        }

        /** The product goes through a row of its own: any of the three rows may be the same. */
        void times(long[] x, long[] y, long[] to) {
            Arrays.fill(wide, 0);
            for (int i = 0; i < limbs; i++) {
                long limb = x[i];
                for (int j = 0; j < limbs; j++) {
                    wide[i + j] += limb * y[j];
                }
            }
            carry(wide);
            for (int i = 0; i < limbs; i++) {
                to[i] = wide[i] + fold * wide[limbs + i];
            }
            foldTop(to);
        }

        /** Makes of x, an answer of times, the one row that stands for its remainder. */
        void settle(long[] x) {
            // An answer has been folded once; a second time brings it into 0 .. 2^bits - 1.
            foldTop(x);
            // With low added, just a number from 2^bits - low on reaches the top and loses the modulus.
            x[0] += low;
            foldTop(x);
            x[0] -= low;
            carry(x);
        }

        /** Adds the number in n bytes of a row, without a remainder taken. */
        void addBytes(byte[] row, int from, int n, long[] to) {
            for (int i = 0; i < n; i++) {
                addByte(row[from + i] & 255, i, to);
            }
            carry(to);
        }

        /** Adds value * 256^i; the limb may be too big until the next carry. */
        void addByte(long value, int i, long[] to) {
            to[8 * i / LIMB_BITS] += value << 8 * i % LIMB_BITS;
        }

        /** The lowest n bytes of x, which must have been carried. */
        void writeBytes(long[] x, byte[] to, int n) {
            for (int i = 0; i < n; i++) {
                int limb = 8 * i / LIMB_BITS;
                int shift = 8 * i % LIMB_BITS;
                long bits = x[limb] >> shift;
                if (limb + 1 < limbs) {
                    bits |= x[limb + 1] << LIMB_BITS - shift;
                }
                to[i] = (byte) bits;
            }
        }

        private void foldTop(long[] x) {
            carry(x);
            long high = x[limbs - 1] >> topBits;
            x[limbs - 1] -= high << topBits;
            x[0] += low * high;
        }

        // The shift keeps the sign, so that a limb below 0 borrows from the next.
        private static void carry(long[] x) {
            for (int i = 0; i + 1 < x.length; i++) {
                x[i + 1] += x[i] >> LIMB_BITS;
                x[i] &= LIMB_MASK;
            }
        }
    }

    /** TAG. */
    private static final class Tagger {
        private static final int PIECE_BYTES = 16;

        private final Field field = new Field(130, 5);
        private final long[] sum = field.newRow();
        private final long[] factor = field.newRow();
        private final byte[] factorBytes = new byte[PIECE_BYTES];

        /** TAG of the first 32 bytes of a key and of n bytes of x. */
        void tagInto(byte[] key, byte[] x, int from, int n, byte[] to) {
            readFactor(key);
            field.setTo(sum, 0);
            for (int at = 0; at < n; at += PIECE_BYTES) {
                takePiece(x, from + at, Math.min(PIECE_BYTES, n - at));
            }
            field.settle(sum);
            field.addBytes(key, PIECE_BYTES, PIECE_BYTES, sum);
            field.writeBytes(sum, to, TAG_BYTES);
        }

        private void readFactor(byte[] key) {
            System.arraycopy(key, 0, factorBytes, 0, PIECE_BYTES);
            for (int i = 3; i < PIECE_BYTES; i += 4) {
                factorBytes[i] &= 15;
            }
            for (int i = 4; i < PIECE_BYTES; i += 4) {
                factorBytes[i] &= 252;
            }
            field.setTo(factor, 0);
            field.addBytes(factorBytes, 0, PIECE_BYTES, factor);
        }

        private void takePiece(byte[] x, int from, int n) {
            field.addByte(1, n, sum);
            field.addBytes(x, from, n, sum);
            field.times(sum, factor, sum);
        }
    }

    /** MULTIPLE. */
    private static final class Curve {
        private static final int TOP_BIT = 254;
        private static final int CURVE_FACTOR = 121665;

        private final Field field = new Field(255, 19);
        private final byte[] bytes = new byte[KEY_BYTES];
        // The document's a, b, c and d: two fractions, of which the first is the answer in the end.
        private final long[] firstOver = field.newRow();
        private final long[] firstUnder = field.newRow();
        private final long[] secondOver = field.newRow();
        private final long[] secondUnder = field.newRow();
        private final long[] u = field.newRow();
        private final long[] e = field.newRow();
        private final long[] f = field.newRow();
        private final long[] g = field.newRow();
        private final long[] h = field.newRow();
        private final long[] q = field.newRow();
        private final long[] r = field.newRow();
        private final long[] t = field.newRow();

        void multipleInto(byte[] key, byte[] point, byte[] to) {
            begin(point);
            readKey(key);
            for (int bit = TOP_BIT; bit >= 0; bit--) {
                if ((bytes[bit / 8] >> bit % 8 & 1) == 1) {
                    step(secondOver, secondUnder, firstOver, firstUnder);
                } else {
                    step(firstOver, firstUnder, secondOver, secondUnder);
                }
            }
            invert(firstUnder, e);
            field.times(firstOver, e, e);
            field.settle(e);
            field.writeBytes(e, to, KEY_BYTES);
        }

        private void begin(byte[] point) {
            System.arraycopy(point, 0, bytes, 0, KEY_BYTES);
            bytes[31] &= 127;
            field.setTo(u, 0);
            field.addBytes(bytes, 0, KEY_BYTES, u);
            field.setTo(firstOver, 1);
            field.setTo(firstUnder, 0);
            field.copy(u, secondOver);
            field.setTo(secondUnder, 1);
        }

        private void readKey(byte[] key) {
            System.arraycopy(key, 0, bytes, 0, KEY_BYTES);
            bytes[0] &= 248;
            bytes[31] &= 127;
            bytes[31] |= 64;
        }

        private void step(long[] a, long[] b, long[] c, long[] d) {
            field.plus(a, b, e);
            field.minus(a, b, f);
            field.plus(c, d, g);
            field.times(g, f, g);
            field.minus(c, d, h);
            field.times(h, e, h);
            field.times(e, e, q);
            field.times(f, f, r);
            field.minus(q, r, t);

            field.plus(g, h, c);
            field.times(c, c, c);
            field.minus(g, h, d);
            field.times(d, d, d);
            field.times(u, d, d);
            field.times(q, r, a);
            field.scale(t, CURVE_FACTOR, b);
            field.plus(q, b, b);
            field.times(t, b, b);
        }

        // The exponent p - 2 is 2^255 - 21: of its bits 0 .. 254 just 2 and 4 are 0.
        private void invert(long[] x, long[] to) {
            field.copy(x, to);
            for (int bit = TOP_BIT - 1; bit >= 0; bit--) {
                field.times(to, to, to);
                if (bit != 2 && bit != 4) {
                    field.times(to, x, to);
                }
            }
        }
    }
}
