/** Objects to test with, and looks at them. A look at the whole state takes 44 calls of the object's 512. */
final class Boxes {
    static final int KEY = 0;
    static final int NONCE = 1;
    static final int POINT = 2;
    static final int TEXT = 3;
    static final int OUT = 4;
    static final int[] ROOMS = {32, 24, 32, 112, 112};
    static final int[] NO_BUFFERS = {-1, 5, -2, 6, 8, 256, Integer.MIN_VALUE, Integer.MAX_VALUE};

    private Boxes() {
    }

    /** All bytes of KEY, NONCE, POINT and TEXT differ from 0; OUT has 77 bytes, TEXT 50. */
    static NonceBox busy() {
        return busy(77);
    }

    /** As busy, but OUT has n bytes; they are of another key, so that no call makes them by chance. */
    static NonceBox busy(int n) {
        NonceBox x = new NonceBox();
        x.put(KEY, 0, 0x5ca1ab1e);
        x.stream(n);
        for (int buffer = KEY; buffer <= TEXT; buffer++) {
            for (int i = 0; i < ROOMS[buffer] / 8; i++) {
                x.put(buffer, i, (buffer * 14 + i + 1) * 0x9e3779b97f4a7c15L | 0x0101010101010101L);
            }
        }
        x.length(50);
        return x;
    }

    /** The bytes of a buffer, all its room. */
    static String room(NonceBox x, int buffer) {
        StringBuilder hex = new StringBuilder();
        for (int i = 0; i < ROOMS[buffer] / 8; i++) {
            hex.append(String.format("%016x", Long.reverseBytes(x.word(buffer, i))));
        }
        return hex.toString();
    }

    /** The first n bytes of a buffer. */
    static String bytes(NonceBox x, int buffer, int n) {
        return room(x, buffer).substring(0, 2 * n);
    }

    static String out(NonceBox x) {
        return bytes(x, OUT, x.size(OUT));
    }

    /** All that can be seen: for each buffer its bytes, and behind them its size. */
    static String[] state(NonceBox x) {
        String[] all = new String[ROOMS.length];
        for (int buffer = 0; buffer < all.length; buffer++) {
            all[buffer] = room(x, buffer) + "/" + x.size(buffer);
        }
        return all;
    }

    /** Fills the first bytes of a buffer; the last word is filled up with zeros. */
    static void fill(NonceBox x, int buffer, String hex) {
        int words = (hex.length() + 15) / 16;
        String whole = hex + "0".repeat(16 * words - hex.length());
        for (int i = 0; i < words; i++) {
            long word = Long.parseUnsignedLong(whole.substring(16 * i, 16 * i + 16), 16);
            if (!x.put(buffer, i, Long.reverseBytes(word))) {
                throw new AssertionError("put(" + buffer + ", " + i + ") was refused");
            }
        }
    }

    static void fillText(NonceBox x, String hex) {
        fill(x, TEXT, hex);
        setLength(x, hex.length() / 2);
    }

    static void setLength(NonceBox x, int n) {
        if (!x.length(n)) {
            throw new AssertionError("length(" + n + ") was refused");
        }
    }
}
