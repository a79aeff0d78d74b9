/** Bytes written as hexadecimal text, two digits each. */
final class Hex {
    private Hex() {
    }

    static int[] ints(String hex) {
        int[] bytes = new int[hex.length() / 2];
        for (int i = 0; i < bytes.length; i++) {
            bytes[i] = Integer.parseInt(hex.substring(2 * i, 2 * i + 2), 16);
        }
        return bytes;
    }

    static String of(int[] bytes) {
        StringBuilder hex = new StringBuilder();
        for (int b : bytes) {
            hex.append(String.format("%02x", b));
        }
        return hex.toString();
    }

    /** The same bytes, but for one bit. */
    static String flipped(String hex, int bit) {
        int[] bytes = ints(hex);
        bytes[bit / 8] ^= 1 << bit % 8;
        return of(bytes);
    }
}
