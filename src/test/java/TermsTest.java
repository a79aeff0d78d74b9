import java.util.Arrays;

/** What the document says of all calls: OUT whatever it had, and an object's 512 calls. */
public final class TermsTest {
    private static final int CALLS = 512;
    private static final String[] NAMES = {"mix", "stream(0)", "stream(1)", "stream(112)", "tag", "multiply", "agree",
        "seal", "open", "box", "unbox"};
    private static final Check.Call[] CALLS_TO_OUT = {Check.MIX, x -> x.stream(0), x -> x.stream(1),
        x -> x.stream(112), Check.TAG, Check.MULTIPLY, Check.AGREE, x -> x.seal(), x -> x.open(), x -> x.box(),
        x -> x.unbox()};
    private static final Check check = new Check();

    public static void main(String[] args) {
        outWhateverItHad();
        outAgain();
        outIsNotTheText();
        everyOneOf512Calls();
        check.end();
    }

    /** TEXT is what the call can take: 21 bytes sealed by the key that it opens with, or 50 bytes. */
    private static NonceBox before(String name, int out) {
        NonceBox x = Boxes.busy(out);
        if (opens(name)) {
            // The looks take calls of an object of their own.
            NonceBox same = Boxes.busy(0);
            int[] key = Hex.ints(Boxes.room(same, 0));
            int[] secret = name.equals("open") ? key : Reference.agreedOf(key, Hex.ints(Boxes.room(same, 2)));
            int[] text = Hex.ints(Boxes.bytes(same, 3, 21));
            Boxes.fillText(x, Hex.of(Reference.sealedOf(secret, Hex.ints(Boxes.room(same, 1)), text)));
        }
        return x;
    }

    private static boolean opens(String name) {
        return name.equals("open") || name.equals("unbox");
    }

    private static String due(String name) {
        NonceBox x = Boxes.busy();
        int[] key = Hex.ints(Boxes.room(x, 0));
        int[] nonce = Hex.ints(Boxes.room(x, 1));
        int[] point = Hex.ints(Boxes.room(x, 2));
        int[] text = Hex.ints(Boxes.bytes(x, 3, 50));
        switch (name) {
            case "mix": return Hex.of(Reference.mixOf(key, Arrays.copyOf(nonce, 16)));
            case "stream(0)": return "";
            case "stream(1)": return Hex.of(Reference.streamOf(key, nonce, 1));
            case "stream(112)": return Hex.of(Reference.streamOf(key, nonce, 112));
            case "tag": return Hex.of(Reference.tagOf(key, text));
            case "multiply": return Hex.of(Reference.multipleOf(key, point));
            case "agree": return Hex.of(Reference.agreedOf(key, point));
            case "seal": return Hex.of(Reference.sealedOf(key, nonce, text));
            case "box": return Hex.of(Reference.sealedOf(Reference.agreedOf(key, point), nonce, text));
            default: return Hex.of(Arrays.copyOf(text, 21));
        }
    }

    private static Object answer(int i, String due) {
        if (NAMES[i].startsWith("stream")) {
            return true;
        }
        return i < 7 ? Check.DONE : (Object) (due.length() / 2);
    }

    private static void outWhateverItHad() {
        check.sentence("Terms: OUT gets what is said with its length, whatever it had; its bytes behind that are 0");
        for (int i = 0; i < NAMES.length; i++) {
            String due = due(NAMES[i]);
            for (int out : new int[] {0, 1, 15, 16, 17, 31, 32, 33, 63, 64, 65, 111, 112}) {
                check.gives(NAMES[i] + " over " + out, before(NAMES[i], out), CALLS_TO_OUT[i], answer(i, due), due);
            }
        }
    }

    private static void outAgain() {
        check.sentence("Terms: OUT gets what is said, though other calls were made before on the same object");
        for (int i = 0; i < NAMES.length; i++) {
            String due = due(NAMES[i]);
            for (int k = 0; k < NAMES.length; k++) {
                NonceBox x = before(NAMES[i], 77);
                Check.answer(x, CALLS_TO_OUT[k]);
                check.gives(NAMES[i] + " after " + NAMES[k], x, CALLS_TO_OUT[i], answer(i, due), due);
            }
        }
    }

    private static void outIsNotTheText() {
        check.sentence("Terms: TEXT and OUT are two buffers, also after a move");
        NonceBox x = Boxes.busy(112);
        x.move(3);
        String text = Boxes.room(x, 3);
        x.stream(0);
        check.same("TEXT", Boxes.room(x, 3), text);
        x.mix();
        x.move(0);
        x.move(2);
        String key = Boxes.room(x, 0);
        x.stream(112);
        check.same("KEY", Boxes.room(x, 0), key);
        check.same("POINT", Boxes.room(x, 2), key);
    }

    private static void everyOneOf512Calls() {
        check.sentence("What it is: an object is used for at most 512 calls");
        for (int i = 0; i < NAMES.length; i++) {
            String due = due(NAMES[i]);
            NonceBox x = worn(NAMES[i], CALLS - 1);
            check.same("the 512th call, " + NAMES[i], Check.answer(x, CALLS_TO_OUT[i]), answer(i, due));
            NonceBox y = worn(NAMES[i], CALLS - 2);
            Check.answer(y, CALLS_TO_OUT[i]);
            String first = (due + "0".repeat(16)).substring(0, 16);
            long word = Long.reverseBytes(Long.parseUnsignedLong(first, 16));
            check.same("the 512th call, word after " + NAMES[i], y.word(4, 0), word);
        }
    }

    /** As before, with so many calls made. */
    private static NonceBox worn(String name, int calls) {
        NonceBox x = before(name, 77);
        // Of the calls up to here: 28 make it busy, and 6 more fill TEXT with 37 bytes.
        for (int made = opens(name) ? 34 : 28; made < calls; made++) {
            if (made % 2 == 0) {
                x.length(113);
            } else {
                x.size(3);
            }
        }
        return x;
    }
}
