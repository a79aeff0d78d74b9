/** Promise 9: tag. */
public final class TagTest {
    private static final String ONE = "01" + "00".repeat(31);
    private static final String TWO = "02" + "00".repeat(31);
    private static final Check check = new Check();

    public static void main(String[] args) {
        tagAsPublished();
        emptyTextHasNoPiece();
        everyLength();
        aPieceKnowsItsLength();
        bytesBehindTheLengthDoNotCount();
        bitsTakenForZero();
        everyBitOfTheOtherHalf();
        remainderOfTheSum();
        remainderOfProducts();
        remainderOfTheTag();
        check.end();
    }

    private static void tagIs(String key, String text, String due) {
        NonceBox x = Boxes.busy();
        Boxes.fill(x, 0, key);
        Boxes.fillText(x, text);
        check.gives("tag of " + text + " by " + key, x, Check.TAG, Check.DONE, due);
    }

    private static String tagOf(String key, String text) {
        return Hex.of(Reference.tagOf(Hex.ints(key), Hex.ints(text)));
    }

    private static void tagAsReference(String key, String text) {
        tagIs(key, text, tagOf(key, text));
    }

    private static void tagAsPublished() {
        check.sentence("9 tag: OUT becomes TAG(KEY, TEXT)");
        tagIs("85d6be7857556d337f4452fe42d506a80103808afb0db2fd4abff6af4149f51b",
                "43727970746f6772617068696320466f72756d2052657365617263682047726f7570",
                "a8061dc1305136c6c22b8baf0c0127a9");
    }

    private static void emptyTextHasNoPiece() {
        check.sentence("9 tag: no piece if x is empty: the tag is s");
        tagIs("ab".repeat(16) + "0123456789abcdef".repeat(2), "", "0123456789abcdef".repeat(2));
        tagIs("ff".repeat(32), "", "ff".repeat(16));
        tagIs("ff".repeat(16) + "00".repeat(16), "", "00".repeat(16));
    }

    private static void everyLength() {
        check.sentence("9 tag: pieces of 16 bytes, the last one may be shorter");
        NonceBox busy = Boxes.busy();
        String key = Boxes.room(busy, 0);
        String text = Boxes.room(busy, 3);
        for (int n = 0; n <= 112; n++) {
            tagAsReference(key, text.substring(0, 2 * n));
            tagAsReference("ff".repeat(32), "ff".repeat(n));
            tagAsReference("ff".repeat(32), "00".repeat(n));
        }
    }

    private static void aPieceKnowsItsLength() {
        check.sentence("9 tag: 256^n is added to a piece of n bytes");
        // With r = 1 and s = 0 the tag of one piece is the piece with a 1 behind it, which leaves at 16 bytes.
        for (int n = 1; n <= 15; n++) {
            tagIs(ONE, "00".repeat(n), "00".repeat(n) + "01" + "00".repeat(15 - n));
            tagIs(ONE, "ff".repeat(n), "ff".repeat(n) + "01" + "00".repeat(15 - n));
        }
        tagIs(ONE, "00".repeat(16), "00".repeat(16));
        tagIs(ONE, "ff".repeat(16), "ff".repeat(16));
        tagIs(ONE, "00".repeat(17), "0001" + "00".repeat(14));
    }

    private static void bytesBehindTheLengthDoNotCount() {
        check.sentence("9 tag: the bytes of TEXT up to its length");
        for (int n : new int[] {0, 1, 15, 16, 17, 31, 32, 33, 96, 111, 112}) {
            NonceBox x = Boxes.busy();
            String key = Boxes.room(x, 0);
            Boxes.fill(x, 3, "5a".repeat(n) + "c3".repeat(112 - n));
            Boxes.setLength(x, n);
            check.gives("tag of " + n + " bytes", x, Check.TAG, Check.DONE, tagOf(key, "5a".repeat(n)));
        }
    }

    private static void bitsTakenForZero() {
        check.sentence("9 tag: of r the four highest bits of 3, 7, 11, 15 and the two lowest of 4, 8, 12 are 0");
        String key = Vectors.AGREED;
        String text = Vectors.MESSAGE.substring(0, 80);
        String tag = tagOf(key, text);
        for (int bit = 0; bit < 128; bit++) {
            String other = Hex.flipped(key, bit);
            String due = isTakenForZero(bit) ? tag : tagOf(other, text);
            check.that("bit " + bit + " counts as it should", isTakenForZero(bit) == due.equals(tag));
            tagIs(other, text, due);
        }
    }

    private static boolean isTakenForZero(int bit) {
        int i = bit / 8;
        return i % 4 == 3 && bit % 8 >= 4 || i > 0 && i % 4 == 0 && bit % 8 < 2;
    }

    private static void everyBitOfTheOtherHalf() {
        check.sentence("9 tag: s is the other 16 bytes");
        for (int bit = 0; bit < 128; bit++) {
            String key = Hex.flipped("00".repeat(32), 128 + bit);
            tagIs(key, "5a".repeat(20), Hex.flipped("00".repeat(16), bit));
        }
    }

    private static void remainderOfTheSum() {
        check.sentence("9 tag: a is the remainder by 2^130 - 5, 0 .. 2^130 - 6");
        // With r = 1 and s = 0: three pieces bring 3 * 2^128, and with 2^128 - 5 + d more a is d.
        for (int d = -3; d <= 8; d++) {
            String pieces = "f8" + "ff".repeat(15) + String.format("%02x", d + 3) + "00".repeat(15) + "00".repeat(16);
            String due = d >= 0 ? String.format("%02x", d) + "00".repeat(15)
                    : String.format("%02x", 251 + d) + "ff".repeat(15);
            tagIs(ONE, pieces, due);
            tagAsReference("01" + "00".repeat(15) + "ff".repeat(16), pieces);
        }
        tagIs(ONE, "ff".repeat(16) + "f0" + "ff".repeat(15) + "11" + "00".repeat(15), "05" + "00".repeat(15));
        tagIs(ONE, "ff".repeat(16) + "fb" + "fe".repeat(15) + "01".repeat(16), "00".repeat(16));
    }

    private static void remainderOfProducts() {
        check.sentence("9 tag: the product is the remainder by 2^130 - 5");
        tagIs(TWO, "ff".repeat(16), "03" + "00".repeat(15));
        tagIs(TWO, "fd" + "ff".repeat(15), "fa" + "ff".repeat(15));
        // The document's remainder between two pieces: published for a sum that wraps in the middle.
        String split = "0100000000000000" + "0400000000000000" + "00".repeat(16);
        String three = "e33594d7505e43b900000000000000003394d7505e4379cd0100000000000000" + "00".repeat(16);
        tagIs(split, three + "01" + "00".repeat(15), "14000000000000005500000000000000");
        tagIs(split, three, "13" + "00".repeat(15));
        for (String r : new String[] {"fcffff0f", "ffffff0f", "00000000", "04000000"}) {
            for (String piece : new String[] {"00", "ff", "fb", "80"}) {
                tagAsReference(r.repeat(4) + "ff".repeat(16), piece.repeat(112));
            }
        }
    }

    private static void remainderOfTheTag() {
        check.sentence("9 tag: a + s, the remainder by 2^128");
        String r = "01" + "00".repeat(15);
        String most = "ff".repeat(16);
        tagIs(r + most, "00".repeat(16), most);
        tagIs(r + most, "01" + "00".repeat(15), "00".repeat(16));
        tagIs(r + most, "02" + "00".repeat(15), "01" + "00".repeat(15));
        tagIs(r + "fe" + "ff".repeat(15), "01" + "00".repeat(15), most);
        tagIs(r + most, most, "fe" + "ff".repeat(15));
        tagIs("02" + "00".repeat(15) + most, "02" + "00".repeat(15), "03" + "00".repeat(15));
    }
}
