import java.util.Arrays;

/** Counts what is wrong, and says which sentence of the document it breaks. */
final class Check {
    /** A call of the face: its answer, or DONE when it has none. */
    interface Call {
        Object on(NonceBox x);
    }

    static final Object DONE = "done";
    static final Call MIX = x -> {
        x.mix();
        return DONE;
    };
    static final Call TAG = x -> {
        x.tag();
        return DONE;
    };
    static final Call MULTIPLY = x -> {
        x.multiply();
        return DONE;
    };
    static final Call AGREE = x -> {
        x.agree();
        return DONE;
    };

    private String sentence = "";
    private int wrong = 0;
    private int done = 0;

    /** The sentence that the checks from here on are about. */
    void sentence(String words) {
        sentence = words;
    }

    void that(String what, boolean holds) {
        done++;
        if (!holds) {
            wrong++;
            System.out.println("wrong: [" + sentence + "] " + what);
        }
    }

    void same(String what, Object got, Object due) {
        that(what + ": got " + got + ", due is " + due, got.equals(due));
    }

    /** The call answers what is due, and changes nothing. */
    void unchanged(String name, NonceBox x, Call call, Object due) {
        String[] before = Boxes.state(x);
        same(name, answer(x, call), due);
        String[] now = Boxes.state(x);
        that(name + " changes nothing: was " + Arrays.toString(before) + ", is " + Arrays.toString(now),
                Arrays.equals(before, now));
    }

    void refused(String name, NonceBox x, Call call) {
        unchanged(name, x, call, false);
    }

    /** The call throws this very exception, and changes nothing. */
    void throwing(String name, NonceBox x, Call call, Class<?> exception) {
        unchanged(name, x, call, exception);
    }

    /** OUT becomes what is due, with zeros behind it; the other buffers stay. */
    void gives(String name, NonceBox x, Call call, Object answer, String due) {
        String[] before = Boxes.state(x);
        same(name, answer(x, call), answer);
        String[] now = Boxes.state(x);
        same(name + ": OUT", now[Boxes.OUT], due + "0".repeat(224 - due.length()) + "/" + due.length() / 2);
        that(name + ": the others stay", Arrays.equals(before, 0, Boxes.OUT, now, 0, Boxes.OUT));
    }

    /** What the call answers, or the class of what it throws. */
    static Object answer(NonceBox x, Call call) {
        try {
            return call.on(x);
        } catch (RuntimeException e) {
            return e.getClass();
        }
    }

    /** Ends the program: code 1 if anything was wrong. */
    void end() {
        System.out.println(done + " checks, " + wrong + " wrong");
        System.exit(wrong == 0 ? 0 : 1);
    }
}
