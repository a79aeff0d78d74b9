import java.util.Arrays;

/** Promises 1 to 6: a new object, put, length, word, size, move. */
public final class BufferTest {
    private static final int[] ROOMS = Boxes.ROOMS;
    private static final Check check = new Check();

    public static void main(String[] args) {
        allZeroAtFirst();
        objectsShareNothing();
        putChangesEightBytes();
        putTakesEveryByte();
        putBehindTheLength();
        putRefusesNoBuffer();
        putRefusesOut();
        putRefusesWithoutRoom();
        lengthTakesItsRange();
        lengthLeavesTheBytes();
        lengthRefusesTheRest();
        wordReadsEveryPlace();
        wordBehindTheLengths();
        wordOfNoBuffer();
        wordWithoutRoom();
        sizes();
        sizeFollowsTheLengths();
        sizeOfNoBuffer();
        moveToText();
        moveToKeyAndPoint();
        moveRefusesAnotherSize();
        moveRefusesOtherBuffers();
        check.end();
    }

    private static void allZeroAtFirst() {
        check.sentence("1 A new object: all 0 at first; TEXT and OUT with a length, at first 0");
        NonceBox x = new NonceBox();
        int[] sizes = {32, 24, 32, 0, 0};
        for (int buffer = 0; buffer < 5; buffer++) {
            check.same("size(" + buffer + ")", x.size(buffer), sizes[buffer]);
            check.same("bytes of " + buffer, Boxes.room(x, buffer), "00".repeat(ROOMS[buffer]));
        }
        check.refused("move(0) of a new object", new NonceBox(), y -> y.move(0));
        check.refused("move(2) of a new object", new NonceBox(), y -> y.move(2));
        check.unchanged("move(3) of a new object", new NonceBox(), y -> y.move(3), true);
        check.throwing("open() of a new object", new NonceBox(), y -> y.open(), IllegalArgumentException.class);
        check.throwing("unbox() of a new object", new NonceBox(), y -> y.unbox(), IllegalArgumentException.class);
    }

    private static void objectsShareNothing() {
        check.sentence("1 A new object: as said, whatever other objects have");
        NonceBox first = Boxes.busy();
        String[] before = Boxes.state(first);
        NonceBox second = new NonceBox();
        check.that("a new object beside a busy one",
                Arrays.equals(Boxes.state(second), Boxes.state(new NonceBox())));
        second.put(0, 0, 1);
        second.length(3);
        second.box();
        second.move(3);
        check.that("a busy object beside a new one", Arrays.equals(Boxes.state(first), before));
    }

    private static void putChangesEightBytes() {
        check.sentence("2 put: bytes 8 * i .. 8 * i + 7 become those of w, the lowest first");
        for (int buffer = 0; buffer < 4; buffer++) {
            for (int i = 0; i < ROOMS[buffer] / 8; i++) {
                NonceBox x = Boxes.busy();
                String[] due = Boxes.state(x);
                due[buffer] = due[buffer].substring(0, 16 * i) + "02030405067fff80"
                        + due[buffer].substring(16 * i + 16);
                check.same("put(" + buffer + ", " + i + ")", x.put(buffer, i, 0x80ff7f0605040302L), true);
                check.same("put(" + buffer + ", " + i + ")", Arrays.toString(Boxes.state(x)), Arrays.toString(due));
            }
        }
    }

    private static void putTakesEveryByte() {
        check.sentence("2 put: bytes are 0 .. 255");
        for (int value = 0; value < 256; value++) {
            NonceBox x = Boxes.busy();
            long w = value * 0x0101010101010101L;
            x.put(2, 3, w);
            check.same("a word of bytes " + value, x.word(2, 3), w);
        }
        for (long w : new long[] {0, 1, -1, Long.MIN_VALUE, Long.MAX_VALUE, 0xffffffffL, 1L << 32, 1L << 31}) {
            NonceBox x = Boxes.busy();
            x.put(3, 13, w);
            check.same("the last word of TEXT", x.word(3, 13), w);
        }
    }

    private static void putBehindTheLength() {
        check.sentence("2 put: TEXT has room for 112, whatever its length");
        for (int n : new int[] {0, 8, 104, 112}) {
            NonceBox x = new NonceBox();
            Boxes.setLength(x, n);
            for (int i = 0; i < 14; i++) {
                check.same("put(3, " + i + ") with a length of " + n, x.put(3, i, i + 1), true);
                check.same("word(3, " + i + ")", x.word(3, i), i + 1L);
            }
            check.same("the length", x.size(3), n);
        }
    }

    private static void putRefusesNoBuffer() {
        check.sentence("2 put: false when there is no such buffer");
        for (int buffer : Boxes.NO_BUFFERS) {
            check.refused("put(" + buffer + ", 0)", Boxes.busy(), x -> x.put(buffer, 0, -1));
            check.refused("put(" + buffer + ", 14)", Boxes.busy(), x -> x.put(buffer, 14, -1));
        }
    }

    private static void putRefusesOut() {
        check.sentence("2 put: false when it is OUT");
        for (int n : new int[] {0, 77, 112}) {
            for (int i = -1; i <= 14; i++) {
                int place = i;
                check.refused("put(4, " + i + ")", Boxes.busy(n), x -> x.put(4, place, -1));
            }
        }
    }

    private static void putRefusesWithoutRoom() {
        check.sentence("2 put: false when it has not room for them");
        for (int buffer = 0; buffer < 5; buffer++) {
            for (int i : noRoomIn(buffer)) {
                int b = buffer;
                check.refused("put(" + buffer + ", " + i + ")", Boxes.busy(), x -> x.put(b, i, -1));
            }
        }
    }

    /** Places outside a buffer, those among them whose eightfold wraps to one inside it. */
    private static int[] noRoomIn(int buffer) {
        int room = ROOMS[buffer] / 8;
        return new int[] {room, room + 1, 2 * room, ROOMS[buffer], -1, -2, -room, 1 << 28, 1 << 29, (1 << 29) + 1,
            1 << 30, -(1 << 29), Integer.MIN_VALUE, Integer.MIN_VALUE + 1, Integer.MAX_VALUE};
    }

    private static void lengthTakesItsRange() {
        check.sentence("3 length: the length of TEXT becomes n, 0 .. 112");
        for (int n = 0; n <= 112; n++) {
            NonceBox x = Boxes.busy();
            check.same("length(" + n + ")", x.length(n), true);
            check.same("size(3)", x.size(3), n);
        }
    }

    private static void lengthLeavesTheBytes() {
        check.sentence("3 length: its bytes stay");
        for (int n : new int[] {0, 1, 7, 8, 49, 50, 51, 111, 112}) {
            NonceBox x = Boxes.busy();
            String[] due = Boxes.state(x);
            due[3] = Boxes.room(x, 3) + "/" + n;
            x.length(0);
            x.length(112);
            x.length(n);
            check.same("length(" + n + ")", Arrays.toString(Boxes.state(x)), Arrays.toString(due));
        }
    }

    private static void lengthRefusesTheRest() {
        check.sentence("3 length: false when n is not 0 .. 112");
        for (int n : new int[] {-1, 113, -2, 114, -112, 128, 256, 1 << 16, Integer.MIN_VALUE, Integer.MAX_VALUE}) {
            check.refused("length(" + n + ")", Boxes.busy(), x -> x.length(n));
        }
    }

    private static void wordReadsEveryPlace() {
        check.sentence("4 word: bytes 8 * i .. 8 * i + 7 of a buffer, the lowest first");
        for (int buffer = 0; buffer < 4; buffer++) {
            for (int i = 0; i < ROOMS[buffer] / 8; i++) {
                NonceBox x = new NonceBox();
                Boxes.fill(x, buffer, "00".repeat(8 * i) + "01fe037f80ff0784");
                for (int k = 0; k < ROOMS[buffer] / 8; k++) {
                    check.same("word(" + buffer + ", " + k + ")", x.word(buffer, k), k == i ? 0x8407ff807f03fe01L : 0L);
                }
            }
        }
        NonceBox full = new NonceBox();
        full.stream(112);
        int[] stream = Reference.streamOf(new int[32], new int[24], 112);
        for (int i = 0; i < 14; i++) {
            long due = Reference.number(Arrays.copyOfRange(stream, 8 * i, 8 * i + 8)).longValue();
            check.same("word(4, " + i + ")", full.word(4, i), due);
        }
    }

    private static void wordBehindTheLengths() {
        check.sentence("4 word: TEXT's bytes behind its length are there, OUT's are 0");
        NonceBox x = Boxes.busy(9);
        x.put(3, 13, -2);
        x.length(0);
        check.same("TEXT's last word", x.word(3, 13), -2L);
        check.that("a word that OUT has whole", x.word(4, 0) != 0);
        check.same("a word that OUT has in part", x.word(4, 1) >>> 8, 0L);
        check.that("what it has of that", x.word(4, 1) != 0);
        for (int i = 2; i < 14; i++) {
            check.same("a word that OUT has not", x.word(4, i), 0L);
        }
    }

    private static void wordOfNoBuffer() {
        check.sentence("4 word: 0 when there is no such buffer");
        for (int buffer : Boxes.NO_BUFFERS) {
            check.unchanged("word(" + buffer + ", 0)", Boxes.busy(), x -> x.word(buffer, 0), 0L);
            check.unchanged("word(" + buffer + ", 14)", Boxes.busy(), x -> x.word(buffer, 14), 0L);
        }
    }

    private static void wordWithoutRoom() {
        check.sentence("4 word: 0 when it has not room for them");
        for (int buffer = 0; buffer < 5; buffer++) {
            for (int i : noRoomIn(buffer)) {
                int b = buffer;
                check.unchanged("word(" + buffer + ", " + i + ")", Boxes.busy(112), x -> x.word(b, i), 0L);
            }
        }
    }

    private static void sizes() {
        check.sentence("5 size: how many bytes a buffer has");
        int[] sizes = {32, 24, 32, 50, 77};
        for (int buffer = 0; buffer < 5; buffer++) {
            int b = buffer;
            check.unchanged("size(" + buffer + ")", Boxes.busy(), x -> x.size(b), sizes[buffer]);
        }
    }

    private static void sizeFollowsTheLengths() {
        check.sentence("5 size: TEXT and OUT: the length");
        for (int n = 0; n <= 112; n++) {
            NonceBox x = Boxes.busy(112 - n);
            x.length(n);
            check.same("size(3)", x.size(3), n);
            check.same("size(4)", x.size(4), 112 - n);
        }
    }

    private static void sizeOfNoBuffer() {
        check.sentence("5 size: NONE when there is no such buffer");
        for (int buffer : Boxes.NO_BUFFERS) {
            check.unchanged("size(" + buffer + ")", Boxes.busy(), x -> x.size(buffer), NonceBox.NONE);
        }
    }

    private static void moveToText() {
        check.sentence("6 move: TEXT gets the bytes of OUT and its length, other bytes of TEXT stay");
        for (int n = 0; n <= 112; n++) {
            NonceBox x = Boxes.busy(n);
            String[] due = Boxes.state(x);
            due[3] = due[4].substring(0, 2 * n) + due[3].substring(2 * n, 224) + "/" + n;
            check.same("move(3) of " + n, x.move(3), true);
            check.same("move(3) of " + n, Arrays.toString(Boxes.state(x)), Arrays.toString(due));
        }
    }

    private static void moveToKeyAndPoint() {
        check.sentence("6 move: KEY or POINT gets the bytes of OUT, which has 32");
        for (int buffer : new int[] {0, 2}) {
            NonceBox x = Boxes.busy(32);
            String[] due = Boxes.state(x);
            due[buffer] = due[4].substring(0, 64) + "/32";
            check.same("move(" + buffer + ")", x.move(buffer), true);
            check.same("move(" + buffer + ")", Arrays.toString(Boxes.state(x)), Arrays.toString(due));
        }
    }

    private static void moveRefusesAnotherSize() {
        check.sentence("6 move: false when it is KEY or POINT and OUT has not 32 bytes");
        for (int n = 0; n <= 112; n++) {
            if (n != 32) {
                check.refused("move(0) of " + n, Boxes.busy(n), x -> x.move(0));
                check.refused("move(2) of " + n, Boxes.busy(n), x -> x.move(2));
            }
        }
    }

    private static void moveRefusesOtherBuffers() {
        check.sentence("6 move: false when it is another buffer");
        for (int n : new int[] {0, 24, 32, 112}) {
            check.refused("move(1) of " + n, Boxes.busy(n), x -> x.move(1));
            check.refused("move(4) of " + n, Boxes.busy(n), x -> x.move(4));
            for (int buffer : Boxes.NO_BUFFERS) {
                check.refused("move(" + buffer + ") of " + n, Boxes.busy(n), x -> x.move(buffer));
            }
        }
    }
}
