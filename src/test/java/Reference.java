import java.math.BigInteger;
import java.util.Arrays;

/**
 * The document once more, written as close to its words as can be and with none of the program's code:
 * numbers are BigIntegers, every buffer is an array of ints. It is slow, and makes objects freely.
 */
final class Reference {
    private static final BigInteger TWO = BigInteger.TWO;
    private static final BigInteger P = TWO.pow(255).subtract(BigInteger.valueOf(19));
    private static final BigInteger TAG_MODULUS = TWO.pow(130).subtract(BigInteger.valueOf(5));
    private static final int[][] COLUMNS = {{0, 4, 8, 12}, {5, 9, 13, 1}, {10, 14, 2, 6}, {15, 3, 7, 11}};
    private static final int[][] ROWS = {{0, 1, 2, 3}, {5, 6, 7, 4}, {10, 11, 8, 9}, {15, 12, 13, 14}};

    final int[][] buffers = {new int[32], new int[24], new int[32], new int[112], new int[112]};
    int textLength = 0;
    int outLength = 0;

    boolean put(int buffer, int i, long w) {
        if (buffer < 0 || buffer > 3 || i < 0 || 8L * i + 7 >= buffers[buffer].length) {
            return false;
        }
        for (int b = 0; b < 8; b++) {
            buffers[buffer][8 * i + b] = (int) (w >>> 8 * b & 255);
        }
        return true;
    }

    boolean length(int n) {
        if (n < 0 || n > 112) {
            return false;
        }
        textLength = n;
        return true;
    }

    long word(int buffer, int i) {
        if (buffer < 0 || buffer > 4 || i < 0 || 8L * i + 7 >= buffers[buffer].length) {
            return 0;
        }
        return number(Arrays.copyOfRange(buffers[buffer], 8 * i, 8 * i + 8)).longValue();
    }

    int size(int buffer) {
        if (buffer < 0 || buffer > 4) {
            return -1;
        }
        return buffer == 3 ? textLength : buffer == 4 ? outLength : buffers[buffer].length;
    }

    boolean move(int buffer) {
        boolean taken = buffer == 3 || (buffer == 0 || buffer == 2) && outLength == 32;
        for (int i = 0; taken && i < outLength; i++) {
            buffers[buffer][i] = buffers[4][i];
        }
        if (buffer == 3) {
            textLength = outLength;
        }
        return taken;
    }

    void mix() {
        give(mixOf(buffers[0], Arrays.copyOf(buffers[1], 16)));
    }

    boolean stream(int n) {
        if (n < 0 || n > 112) {
            return false;
        }
        give(streamOf(buffers[0], buffers[1], n));
        return true;
    }

    void tag() {
        give(tagOf(buffers[0], text()));
    }

    void multiply() {
        give(multipleOf(buffers[0], buffers[2]));
    }

    void agree() {
        give(agreed());
    }

    int seal() {
        return sealBy(buffers[0]);
    }

    int open() {
        return openBy(buffers[0]);
    }

    int box() {
        return sealBy(agreed());
    }

    int unbox() {
        return openBy(agreed());
    }

    private int sealBy(int[] key) {
        if (textLength > 96) {
            throw new IllegalArgumentException();
        }
        give(sealedOf(key, buffers[1], text()));
        return outLength;
    }

    /** Opens by sealing: x is what was sealed if it becomes, sealed again, the very text. */
    private int openBy(int[] key) {
        if (textLength < 16) {
            throw new IllegalArgumentException();
        }
        int[] hidden = Arrays.copyOfRange(text(), 16, textLength);
        int[] found = Arrays.copyOfRange(sealedOf(key, buffers[1], hidden), 16, textLength);
        if (!Arrays.equals(sealedOf(key, buffers[1], found), text())) {
            throw new IllegalStateException();
        }
        give(found);
        return outLength;
    }

    private int[] text() {
        return Arrays.copyOf(buffers[3], textLength);
    }

    private void give(int[] bytes) {
        buffers[4] = Arrays.copyOf(bytes, 112);
        outLength = bytes.length;
    }

    private int[] agreed() {
        return agreedOf(buffers[0], buffers[2]);
    }

    static BigInteger number(int[] bytes) {
        BigInteger n = BigInteger.ZERO;
        for (int i = bytes.length - 1; i >= 0; i--) {
            n = n.shiftLeft(8).add(BigInteger.valueOf(bytes[i]));
        }
        return n;
    }

    static int[] bytesOf(BigInteger n, int count) {
        int[] bytes = new int[count];
        for (int i = 0; i < count; i++) {
            bytes[i] = n.shiftRight(8 * i).intValue() & 255;
        }
        return bytes;
    }

    private static int[] joined(int[] first, int[] second) {
        int[] both = Arrays.copyOf(first, first.length + second.length);
        System.arraycopy(second, 0, both, first.length, second.length);
        return both;
    }

    private static int wordIn(int[] bytes, int i) {
        return number(Arrays.copyOfRange(bytes, 4 * i, 4 * i + 4)).intValue();
    }

    private static int[] bytesOfWords(int[] words, int... which) {
        int[] bytes = new int[0];
        for (int i : which) {
            bytes = joined(bytes, bytesOf(BigInteger.valueOf(words[i]), 4));
        }
        return bytes;
    }

    private static int[] laidOut(int[] key, int[] x) {
        int[] w = new int[16];
        w[0] = 1634760805;
        w[5] = 857760878;
        w[10] = 2036477234;
        w[15] = 1797285236;
        for (int i = 0; i < 4; i++) {
            w[1 + i] = wordIn(key, i);
            w[11 + i] = wordIn(key, 4 + i);
            w[6 + i] = wordIn(x, i);
        }
        return w;
    }

    private static int[] rounds(int[] laid) {
        int[] w = laid.clone();
        for (int round = 0; round < 10; round++) {
            for (int[][] steps : new int[][][] {COLUMNS, ROWS}) {
                for (int[] s : steps) {
                    w[s[1]] ^= Integer.rotateLeft(w[s[0]] + w[s[3]], 7);
                    w[s[2]] ^= Integer.rotateLeft(w[s[1]] + w[s[0]], 9);
                    w[s[3]] ^= Integer.rotateLeft(w[s[2]] + w[s[1]], 13);
                    w[s[0]] ^= Integer.rotateLeft(w[s[3]] + w[s[2]], 18);
                }
            }
        }
        return w;
    }

    static int[] mixOf(int[] key, int[] x) {
        return bytesOfWords(rounds(laidOut(key, x)), 0, 5, 10, 15, 6, 7, 8, 9);
    }

    static int[] coreOf(int[] key, int[] x) {
        int[] laid = laidOut(key, x);
        int[] w = rounds(laid);
        for (int i = 0; i < 16; i++) {
            w[i] += laid[i];
        }
        return bytesOfWords(w, 0, 1, 2, 3, 4, 5, 6, 7, 8, 9, 10, 11, 12, 13, 14, 15);
    }

    static int[] streamOf(int[] key, int[] nonce, int n) {
        int[] k = mixOf(key, Arrays.copyOf(nonce, 16));
        int[] bytes = new int[0];
        for (int i = 0; bytes.length < n; i++) {
            int[] place = joined(Arrays.copyOfRange(nonce, 16, 24), bytesOf(BigInteger.valueOf(i), 8));
            bytes = joined(bytes, coreOf(k, place));
        }
        return Arrays.copyOf(bytes, n);
    }

    static int[] tagOf(int[] key, int[] x) {
        int[] low = Arrays.copyOf(key, 16);
        for (int i : new int[] {3, 7, 11, 15}) {
            low[i] &= 0x0f;
        }
        for (int i : new int[] {4, 8, 12}) {
            low[i] &= 0xfc;
        }
        BigInteger r = number(low);
        BigInteger s = number(Arrays.copyOfRange(key, 16, 32));
        BigInteger a = BigInteger.ZERO;
        for (int at = 0; at < x.length; at += 16) {
            int[] piece = Arrays.copyOfRange(x, at, Math.min(at + 16, x.length));
            a = a.add(number(piece)).add(TWO.pow(8 * piece.length)).multiply(r).mod(TAG_MODULUS);
        }
        return bytesOf(a.add(s).mod(TWO.pow(128)), 16);
    }

    static int[] sealedOf(int[] key, int[] nonce, int[] x) {
        int[] stream = streamOf(key, nonce, 32 + x.length);
        int[] y = x.clone();
        for (int i = 0; i < y.length; i++) {
            y[i] ^= stream[32 + i];
        }
        return joined(tagOf(Arrays.copyOf(stream, 32), y), y);
    }

    private static BigInteger product(BigInteger x, BigInteger y) {
        return x.multiply(y).mod(P);
    }

    static int[] agreedOf(int[] key, int[] point) {
        return mixOf(multipleOf(key, point), new int[16]);
    }

    static int[] multipleOf(int[] key, int[] point) {
        return bytesOf(ladder(numberOfKey(key), number(point).clearBit(255).mod(P)), 32);
    }

    static BigInteger numberOfKey(int[] key) {
        return number(key).clearBit(0).clearBit(1).clearBit(2).clearBit(255).setBit(254);
    }

    /** The steps of MULTIPLE, for any n below 2^255. */
    static BigInteger ladder(BigInteger n, BigInteger u) {
        BigInteger[] v = {BigInteger.ONE, BigInteger.ZERO, u, BigInteger.ONE};
        for (int bit = 254; bit >= 0; bit--) {
            v = n.testBit(bit) ? changed(stepped(changed(v), u)) : stepped(v, u);
        }
        return product(v[0], v[1].modPow(P.subtract(TWO), P));
    }

    private static BigInteger[] changed(BigInteger[] v) {
        return new BigInteger[] {v[2], v[3], v[0], v[1]};
    }

    private static BigInteger[] stepped(BigInteger[] v, BigInteger u) {
        BigInteger e = v[0].add(v[1]);
        BigInteger f = v[0].subtract(v[1]);
        BigInteger g = product(v[2].add(v[3]), f);
        BigInteger h = product(v[2].subtract(v[3]), e);
        BigInteger q = product(e, e);
        BigInteger r = product(f, f);
        BigInteger t = q.subtract(r);
        BigInteger c = product(g.add(h), g.add(h));
        BigInteger d = product(u, product(g.subtract(h), g.subtract(h)));
        BigInteger b = product(t, q.add(t.multiply(BigInteger.valueOf(121665))));
        return new BigInteger[] {product(q, r), b, c, d};
    }
}
