import java.io.IOException;
import java.nio.file.Files;
import java.nio.file.Path;
import java.util.ArrayList;
import java.util.List;

/** The examples of README.md: they do what their comments say, and README.md has them as they stand here. */
public final class ReadmeTest {
    private static final Path SOURCE = Path.of("src/test/java/ReadmeTest.java");
    private static final Path README = Path.of("README.md");
    private static final String INDENT = " ".repeat(8);
    private static final long HELLO = 0x6f6c6c6568L;
    private static final Check check = new Check();

    public static void main(String[] args) throws IOException {
        check.sentence("README.md: how to use the class");
        oneKey();
        twoSides();
        check.same("the examples of README.md", examples(README, "```java", "```", ""),
                examples(SOURCE, INDENT + "// README: from here", INDENT + "// README: to here", INDENT));
        check.end();
    }

    private static void oneKey() {
        // README: from here
        NonceBox box = new NonceBox();
        box.put(0, 0, 42);             // the first 8 bytes of the key
        box.put(1, 0, 1);              // the first 8 bytes of the nonce
        box.put(3, 0, 0x6f6c6c6568L);
        box.length(5);                 // the text is "hello"
        int sealed = box.seal();       // 21: a tag of 16 bytes, and 5 hidden ones
        box.move(3);                   // the sealed text becomes the text
        int opened = box.open();       // 5: OUT has "hello" again
        // README: to here
        check.same("seal", sealed, 21);
        check.same("open", opened, 5);
        check.same("OUT", box.word(4, 0), HELLO);
        check.that("the text was hidden", box.word(3, 2) != HELLO);
    }

    private static void twoSides() {
        // README: from here
        NonceBox ann = new NonceBox();
        NonceBox ben = new NonceBox();
        ann.put(0, 0, 1234567);        // each side's secret key
        ben.put(0, 0, 7654321);
        ann.put(2, 0, 9);              // a side's own point is its key's multiple of the point 9
        ben.put(2, 0, 9);
        ann.multiply();
        ben.multiply();
        for (int i = 0; i < 4; i++) {  // the points are handed over
            ann.put(2, i, ben.word(4, i));
            ben.put(2, i, ann.word(4, i));
        }
        ann.put(1, 0, 1);              // the same nonce on both sides
        ben.put(1, 0, 1);
        ann.put(3, 0, 0x6f6c6c6568L);
        ann.length(5);
        int boxed = ann.box();         // 21
        for (int i = 0; i < 14; i++) { // the boxed text is handed over
            ben.put(3, i, ann.word(4, i));
        }
        ben.length(boxed);
        int unboxed = ben.unbox();     // 5: OUT has "hello"
        // README: to here
        check.same("box", boxed, 21);
        check.same("unbox", unboxed, 5);
        check.same("OUT", ben.word(4, 0), HELLO);
        check.that("the text was hidden", ben.word(3, 2) != HELLO);
    }

    /** The lines between the marks, without their indent, each example behind the one before. */
    private static List<String> examples(Path file, String first, String last, String indent) throws IOException {
        List<String> found = new ArrayList<>();
        boolean inside = false;
        for (String line : Files.readAllLines(file)) {
            if (line.equals(last)) {
                inside = false;
            }
            if (inside) {
                found.add(line.startsWith(indent) ? line.substring(indent.length()) : line);
            }
            if (line.equals(first)) {
                inside = true;
                found.add("example");
            }
        }
        return found;
    }
}
