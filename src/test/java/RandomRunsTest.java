import java.util.Random;

/** Long runs of calls, the program beside the reference: each answer, each exception, and the state by many looks. */
public final class RandomRunsTest {
    private static final int RUNS = 320;
    // A step is a call and four looks; with the look at the whole state (44 calls) it makes 509 of 512 calls.
    private static final int STEPS = 93;
    private static final long[] EDGE_WORDS = {0, 1, 2, 9, -1, -2, -5, -19, -20, -18, Long.MAX_VALUE, Long.MIN_VALUE,
        0xffffffffL, 0x0ffffffc0fffffffL, 0x0ffffffc0ffffffcL};
    private static final int[] EDGE_PLACES = {-1, 3, 4, 13, 14, 1 << 29, Integer.MIN_VALUE, Integer.MAX_VALUE};
    private static final int[] EDGE_LENGTHS = {-1, 0, 1, 15, 16, 17, 31, 32, 33, 63, 64, 65, 95, 96, 97, 111, 112, 113,
        Integer.MIN_VALUE, Integer.MAX_VALUE};

    private final Check check;
    private final Random random;
    private final NonceBox program = new NonceBox();
    private final Reference reference = new Reference();
    private String call = "";
    // What comes next for certain, so that something is also opened.
    private String planned = "";

    private RandomRunsTest(Check check, long seed) {
        this.check = check;
        random = new Random(seed);
    }

    public static void main(String[] args) {
        Check check = new Check();
        for (int run = 1; run <= RUNS; run++) {
            new RandomRunsTest(check, run).run(run);
        }
        check.end();
    }

    private void run(int run) {
        for (int i = 0; i < STEPS; i++) {
            call = planned.isEmpty() ? pick() : planned.split(" ")[0];
            planned = planned.isEmpty() ? "" : planned.substring(call.length()).trim();
            String got;
            String due;
            if (call.equals("put") || call.equals("word")) {
                int buffer = random.nextInt(12) == 0 ? random.nextInt(9) - 3 : random.nextInt(5);
                int place = random.nextInt(8) == 0 ? EDGE_PLACES[random.nextInt(EDGE_PLACES.length)] : random.nextInt(5);
                long w = random.nextBoolean() ? random.nextLong() : EDGE_WORDS[random.nextInt(EDGE_WORDS.length)];
                got = call.equals("put") ? "" + program.put(buffer, place, w) : "" + program.word(buffer, place);
                due = call.equals("put") ? "" + reference.put(buffer, place, w) : "" + reference.word(buffer, place);
            } else {
                int n = argument();
                got = answer(true, n);
                due = answer(false, n);
            }
            check.that("run " + run + ", call " + i + ", " + call + ": got " + got + ", due is " + due, got.equals(due));
            check.that("run " + run + ", call " + i + ", " + call + ": the state", looksTheSame());
        }
        check.that("run " + run + ": the state in the end", sameState());
    }

    private String pick() {
        int k = random.nextInt(100);
        if (k < 40) {
            return "put";
        }
        if (k < 46) {
            planned = "move-text " + (random.nextInt(3) == 0 ? "put " : "") + "open";
            return "seal";
        }
        if (k < 48) {
            planned = "move-text " + (random.nextInt(3) == 0 ? "put " : "") + "unbox";
            return "box";
        }
        String[] rare = {"multiply", "agree", "box", "unbox"};
        String[] common = {"length", "word", "size", "move", "mix", "stream", "tag", "seal", "open"};
        return k < 56 ? rare[random.nextInt(rare.length)] : common[random.nextInt(common.length)];
    }

    private int argument() {
        if (call.equals("length") || call.equals("stream")) {
            return random.nextBoolean() ? random.nextInt(113) : EDGE_LENGTHS[random.nextInt(EDGE_LENGTHS.length)];
        }
        return random.nextInt(9) - 2;
    }

    private String answer(boolean ofProgram, int n) {
        try {
            return ofProgram ? ofProgram(n) : ofReference(n);
        } catch (RuntimeException e) {
            return e.getClass().getName();
        }
    }

    private String ofProgram(int n) {
        switch (call) {
            case "length": return "" + program.length(n);
            case "size": return "" + program.size(n);
            case "move": return "" + program.move(n);
            case "move-text": return "" + program.move(3);
            case "stream": return "" + program.stream(n);
            case "mix": program.mix(); return "";
            case "tag": program.tag(); return "";
            case "multiply": program.multiply(); return "";
            case "agree": program.agree(); return "";
            case "seal": return "" + program.seal();
            case "open": return "" + program.open();
            case "box": return "" + program.box();
            default: return "" + program.unbox();
        }
    }

    private String ofReference(int n) {
        switch (call) {
            case "length": return "" + reference.length(n);
            case "size": return "" + reference.size(n);
            case "move": return "" + reference.move(n);
            case "move-text": return "" + reference.move(3);
            case "stream": return "" + reference.stream(n);
            case "mix": reference.mix(); return "";
            case "tag": reference.tag(); return "";
            case "multiply": reference.multiply(); return "";
            case "agree": reference.agree(); return "";
            case "seal": return "" + reference.seal();
            case "open": return "" + reference.open();
            case "box": return "" + reference.box();
            default: return "" + reference.unbox();
        }
    }

    private boolean looksTheSame() {
        int buffer = random.nextInt(4);
        int place = random.nextInt(Boxes.ROOMS[buffer] / 8);
        int outPlace = random.nextInt(Math.min(14, reference.outLength / 8 + 2));
        return program.size(3) == reference.size(3) && program.size(4) == reference.size(4)
                && program.word(4, outPlace) == reference.word(4, outPlace)
                && program.word(buffer, place) == reference.word(buffer, place);
    }

    private boolean sameState() {
        for (int buffer = 0; buffer < 5; buffer++) {
            if (program.size(buffer) != reference.size(buffer)) {
                return false;
            }
            for (int i = 0; i < reference.buffers[buffer].length / 8; i++) {
                if (program.word(buffer, i) != reference.word(buffer, i)) {
                    return false;
                }
            }
        }
        return true;
    }
}
