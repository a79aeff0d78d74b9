import java.math.BigInteger;

/** Promises 10 and 11: multiply and agree. */
public final class CurveTest {
    private static final BigInteger P = BigInteger.TWO.pow(255).subtract(BigInteger.valueOf(19));
    // How many points the two groups have whose order is prime: the curve's, and that of the numbers u beside it.
    private static final BigInteger CURVE_ORDER = BigInteger.TWO.pow(252)
            .add(new BigInteger("27742317777372353535851937790883648493"));
    private static final BigInteger TWIST_ORDER = BigInteger.TWO.pow(253)
            .subtract(new BigInteger("55484635554744707071703875581767296995"));
    // 0, 1, p - 1 and two more: their eightfold is the curve's 0, and every n is a multiple of 8.
    private static final String[] LOW_ORDER = {"00".repeat(32), "01" + "00".repeat(31), "ec" + "ff".repeat(30) + "7f",
        "e0eb7a7c3b41b8ae1656e3faf19fc46ada098deb9c32b1fd866205165f49b800",
        "5f9c95bca3508c24b1d0b1559c83ef5b04445cc4581c8e86d8224eddd09f1157"};
    // Pairs k, d: 2^k - d can be an answer, and its bits up to k are all 1 but for the lowest few.
    private static final int[][] BELOW_POWERS = {{8, 1}, {16, 15}, {25, 14}, {26, 2}, {27, 1}, {28, 3}, {32, 3},
        {51, 1}, {52, 11}, {56, 2}, {64, 4}, {78, 4}, {84, 7}, {96, 12}, {102, 1}, {104, 3}, {128, 7}, {130, 1},
        {153, 6}, {156, 8}, {160, 4}, {182, 2}, {192, 2}, {204, 6}, {208, 11}, {224, 5}, {230, 10}, {234, 1}, {254, 2}};
    private static final String ZERO = "00".repeat(32);
    private static final Check check = new Check();

    public static void main(String[] args) {
        multiplyAsPublished();
        multiplyAgainAndAgain();
        bitsOfTheKeyThatDoNotCount();
        bitsOfTheKeyThatCount();
        topBitOfThePointDoesNotCount();
        bitsOfThePointThatCount();
        pointsRoundTheModulus();
        nothingToDivideBy();
        answersRoundTheModulus();
        answersBelowPowers();
        agreeAsPublished();
        agreeTakesNoNonce();
        agreeOfNothing();
        check.end();
    }

    private static NonceBox by(String key, String point) {
        NonceBox x = Boxes.busy();
        Boxes.fill(x, 0, key);
        Boxes.fill(x, 2, point);
        return x;
    }

    private static void multipleIs(String key, String point, String due) {
        check.gives("multiple of " + key + " and " + point, by(key, point), Check.MULTIPLY, Check.DONE, due);
    }

    private static String multipleOf(String key, String point) {
        return Hex.of(Reference.multipleOf(Hex.ints(key), Hex.ints(point)));
    }

    private static String bytesOf(BigInteger n) {
        return Hex.of(Reference.bytesOf(n, 32));
    }

    private static void multiplyAsPublished() {
        check.sentence("10 multiply: OUT becomes MULTIPLE(KEY, POINT)");
        multipleIs("a546e36bf0527c9d3b16154b82465edd62144c0ac1fc5a18506a2244ba449ac4",
                "e6db6867583030db3594c1a424b15f7c726624ec26b3353b10a903a6d0ab1c4c",
                "c3da55379de9c6908e94ea4df28d084f32eccf03491c71f754b4075577a28552");
        // The point of this vector has bit 255.
        multipleIs("4b66e9d4d1b4673c5ad22691957d6af5c11b6421e0ea01d42ca4169e7918ba0d",
                "e5210f12786811d3f4b7959d0538ae2c31dbe7106fc03c3efc4cd549c715a493",
                "95cbde9476e8907d7aade45cb4b873f88b595a68799fa152e6f8f7647aac7957");
        String nine = "09" + "00".repeat(31);
        multipleIs(Vectors.ALICE_KEY, nine, Vectors.ALICE_POINT);
        multipleIs(Vectors.BOB_KEY, nine, Vectors.BOB_POINT);
        multipleIs(Vectors.ALICE_KEY, Vectors.BOB_POINT, Vectors.SHARED);
        multipleIs(Vectors.BOB_KEY, Vectors.ALICE_POINT, Vectors.SHARED);
    }

    /** The chain of RFC 7748; an object is used for 20 rounds of it, so that its calls stay under 512. */
    private static void multiplyAgainAndAgain() {
        String key = "09" + "00".repeat(31);
        String point = key;
        NonceBox x = new NonceBox();
        for (int i = 1; i <= 1000; i++) {
            Boxes.fill(x, 0, key);
            Boxes.fill(x, 2, point);
            x.multiply();
            point = key;
            key = Boxes.out(x);
            if (i == 1) {
                check.same("once", key, "422c8e7a6227d7bca1350b3e2bb7279f7897b87bb6854b783c60e80311ae3079");
            }
            if (i % 20 == 0) {
                x = new NonceBox();
            }
        }
        check.same("1000 times", key, "684cf59ba83309552800ef566f2f4d3c1c3887c49360e3875f2eb94d99532c51");
    }

    private static void bitsOfTheKeyThatDoNotCount() {
        check.sentence("10 multiply: the key's three lowest bits and bit 255 are taken for 0, bit 254 for 1");
        int[] key = Hex.ints(Vectors.BOB_KEY);
        for (int low = 0; low < 8; low++) {
            for (int high = 0; high < 4; high++) {
                key[0] = key[0] & 248 | low;
                key[31] = key[31] & 63 | high << 6;
                multipleIs(Hex.of(key), Vectors.ALICE_POINT, Vectors.SHARED);
            }
        }
    }

    private static void bitsOfTheKeyThatCount() {
        check.sentence("10 multiply: for each bit of n; bits 3 .. 253 of the key are taken as they are");
        for (int bit = 3; bit <= 253; bit++) {
            String key = Hex.flipped(Vectors.BOB_KEY, bit);
            String due = multipleOf(key, Vectors.ALICE_POINT);
            check.that("bit " + bit + " counts", !due.equals(Vectors.SHARED));
            multipleIs(key, Vectors.ALICE_POINT, due);
        }
    }

    private static void topBitOfThePointDoesNotCount() {
        check.sentence("10 multiply: the point's bit 255 is taken for 0");
        multipleIs(Vectors.BOB_KEY, Hex.flipped(Vectors.ALICE_POINT, 255), Vectors.SHARED);
        for (String point : LOW_ORDER) {
            multipleIs(Vectors.BOB_KEY, Hex.flipped(point, 255), ZERO);
        }
    }

    private static void bitsOfThePointThatCount() {
        check.sentence("10 multiply: u is the point as a number, bits 0 .. 254");
        for (int bit = 0; bit <= 254; bit++) {
            String point = Hex.flipped(Vectors.ALICE_POINT, bit);
            multipleIs(Vectors.BOB_KEY, point, multipleOf(Vectors.BOB_KEY, point));
        }
    }

    private static void pointsRoundTheModulus() {
        check.sentence("10 multiply: u is the remainder by p");
        for (String key : new String[] {Vectors.BOB_KEY, "00".repeat(32), "ff".repeat(32)}) {
            for (int d = 0; d < 19; d++) {
                BigInteger u = BigInteger.valueOf(d);
                String due = multipleOf(key, bytesOf(u));
                multipleIs(key, bytesOf(u), due);
                multipleIs(key, bytesOf(u.add(P)), due);
                multipleIs(key, bytesOf(u.add(P).setBit(255)), due);
                String below = bytesOf(P.subtract(u));
                multipleIs(key, below, multipleOf(key, below));
            }
        }
    }

    private static void nothingToDivideBy() {
        check.sentence("10 multiply: MULTIPLE is a * b^(p - 2), which is 0 when b is");
        for (String point : LOW_ORDER) {
            for (String key : new String[] {Vectors.ALICE_KEY, Vectors.BOB_KEY, "00".repeat(32), "ff".repeat(32)}) {
                multipleIs(key, point, ZERO);
                BigInteger u = Reference.number(Hex.ints(point));
                if (u.add(P).bitLength() <= 255) {
                    multipleIs(key, bytesOf(u.add(P)), ZERO);
                }
            }
        }
    }

    /** Works out points whose multiple is a number close to 0 or p, where a remainder is missed most easily. */
    private static void answersRoundTheModulus() {
        check.sentence("10 multiply: the answer is one of 0 .. p - 1");
        String key = Vectors.ALICE_KEY;
        for (int i = 0; i < 12; i++) {
            multipleBecomes(key, BigInteger.valueOf(2));
            multipleBecomes(key, BigInteger.valueOf(9));
            multipleBecomes(key, BigInteger.valueOf(16));
            multipleBecomes(key, BigInteger.valueOf(21));
            multipleBecomes(key, P.subtract(BigInteger.valueOf(8)));
            multipleBecomes(key, P.subtract(BigInteger.valueOf(10)));
            multipleBecomes(key, P.subtract(BigInteger.valueOf(21)));
            key = multipleOf(key, Vectors.BOB_POINT);
        }
    }

    private static void answersBelowPowers() {
        check.sentence("10 multiply: the answer as 32 bytes, also where a carry could run through many of them");
        for (int[] pair : BELOW_POWERS) {
            BigInteger answer = BigInteger.TWO.pow(pair[0]).subtract(BigInteger.valueOf(pair[1]));
            multipleBecomes(Vectors.ALICE_KEY, answer);
            multipleBecomes(Vectors.BOB_KEY, answer);
        }
    }

    private static void multipleBecomes(String key, BigInteger answer) {
        BigInteger n = Reference.numberOfKey(Hex.ints(key));
        BigInteger order = isOnCurve(answer) ? CURVE_ORDER : TWIST_ORDER;
        BigInteger point = Reference.ladder(n.modInverse(order), answer);
        multipleIs(key, bytesOf(point), bytesOf(answer));
    }

    private static boolean isOnCurve(BigInteger u) {
        BigInteger square = u.pow(3).add(u.pow(2).multiply(BigInteger.valueOf(486662))).add(u);
        return square.modPow(P.shiftRight(1), P).equals(BigInteger.ONE);
    }

    private static void agreeIs(String key, String nonce, String point, String due) {
        NonceBox x = by(key, point);
        Boxes.fill(x, 1, nonce);
        check.gives("agree of " + key + " and " + point, x, Check.AGREE, Check.DONE, due);
    }

    private static void agreeAsPublished() {
        check.sentence("11 agree: OUT becomes AGREED of KEY and POINT, the same for both sides");
        agreeIs(Vectors.BOB_KEY, Vectors.NONCE, Vectors.ALICE_POINT, Vectors.AGREED);
        agreeIs(Vectors.ALICE_KEY, Vectors.NONCE, Vectors.BOB_POINT, Vectors.AGREED);
        NonceBox x = by(Vectors.BOB_KEY, Vectors.ALICE_POINT);
        x.agree();
        check.gives("agree again", x, Check.AGREE, Check.DONE, Vectors.AGREED);
        Boxes.fill(x, 2, Vectors.BOB_POINT);
        String due = Hex.of(Reference.agreedOf(Hex.ints(Vectors.BOB_KEY), Hex.ints(Vectors.BOB_POINT)));
        check.gives("agree with another point", x, Check.AGREE, Check.DONE, due);
    }

    private static void agreeTakesNoNonce() {
        check.sentence("11 agree: MIX with 16 bytes that are 0");
        for (String nonce : new String[] {"00", "ff", "5a"}) {
            agreeIs(Vectors.BOB_KEY, nonce.repeat(24), Vectors.ALICE_POINT, Vectors.AGREED);
        }
    }

    private static void agreeOfNothing() {
        check.sentence("11 agree: of a point whose MULTIPLE is 0");
        String due = Hex.of(Reference.mixOf(new int[32], new int[16]));
        for (String point : LOW_ORDER) {
            agreeIs(Vectors.BOB_KEY, Vectors.NONCE, point, due);
        }
        String most = bytesOf(P.subtract(BigInteger.ONE));
        agreeIs("ff".repeat(32), Vectors.NONCE, most, due);
        agreeIs("ff".repeat(32), Vectors.NONCE, "ff".repeat(32),
                Hex.of(Reference.agreedOf(Hex.ints("ff".repeat(32)), Hex.ints("ff".repeat(32)))));
    }
}
