import java.util.Arrays;

/** What the tests share: bytes written as hexadecimal text, whole states, and a count of what is wrong. */
final class Check {
    private static final int[] ROOMS = {32, 24, 32, 112, 112};

    private int wrong = 0;
    private int done = 0;

    void that(String what, boolean holds) {
        done++;
        if (!holds) {
            wrong++;
            System.out.println("wrong: " + what);
        }
    }

    void same(String what, Object got, Object due) {
        that(what + ": got " + got + ", due is " + due, got.equals(due));
    }

    /** Ends the program: code 1 if anything was wrong. */
    void end() {
        System.out.println(done + " checks, " + wrong + " wrong");
        System.exit(wrong == 0 ? 0 : 1);
    }

    /** The bytes of a buffer, all its room, as hexadecimal text. */
    static String room(NonceBox box, int buffer) {
        StringBuilder hex = new StringBuilder();
        for (int i = 0; i < ROOMS[buffer] / 8; i++) {
            hex.append(String.format("%016x", Long.reverseBytes(box.word(buffer, i))));
        }
        return hex.toString();
    }

    /** The first n bytes of a buffer. */
    static String bytes(NonceBox box, int buffer, int n) {
        return room(box, buffer).substring(0, 2 * n);
    }

    static String out(NonceBox box) {
        return bytes(box, 4, box.size(4));
    }

    /** All that can be seen. The looks take an object beyond 512 calls at times: it counts none, so that is safe. */
    static String state(NonceBox box) {
        StringBuilder all = new StringBuilder();
        for (int buffer = 0; buffer < ROOMS.length; buffer++) {
            all.append(room(box, buffer)).append('/').append(box.size(buffer)).append(' ');
        }
        return all.toString();
    }

    /** Fills the first bytes of a buffer; the last word is filled up with zeros. */
    static void fill(NonceBox box, int buffer, String hex) {
        int words = (hex.length() + 15) / 16;
        String whole = hex + "0".repeat(16 * words - hex.length());
        for (int i = 0; i < words; i++) {
            long word = Long.parseUnsignedLong(whole.substring(16 * i, 16 * i + 16), 16);
            if (!box.put(buffer, i, Long.reverseBytes(word))) {
                throw new AssertionError("put(" + buffer + ", " + i + ") was refused");
            }
        }
    }

    static void fillText(NonceBox box, String hex) {
        fill(box, 3, hex);
        if (!box.length(hex.length() / 2)) {
            throw new AssertionError("length was refused");
        }
    }

    static int[] ints(String hex) {
        int[] bytes = new int[hex.length() / 2];
        for (int i = 0; i < bytes.length; i++) {
            bytes[i] = Integer.parseInt(hex.substring(2 * i, 2 * i + 2), 16);
        }
        return bytes;
    }

    static String hex(int[] bytes) {
        StringBuilder hex = new StringBuilder();
        Arrays.stream(bytes).forEach(b -> hex.append(String.format("%02x", b)));
        return hex.toString();
    }
}
