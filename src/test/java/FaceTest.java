import java.lang.reflect.Field;
import java.lang.reflect.Method;
import java.lang.reflect.Modifier;
import java.util.Arrays;
import java.util.Set;
import java.util.TreeSet;

/** The class has the document's face and nothing else that can be seen from outside. */
public final class FaceTest {
    private static final Set<String> FACE = new TreeSet<>(Arrays.asList(
            "public static final int NonceBox.NONE",
            "public NonceBox()",
            "public boolean NonceBox.put(int,int,long)",
            "public boolean NonceBox.length(int)",
            "public long NonceBox.word(int,int)",
            "public int NonceBox.size(int)",
            "public boolean NonceBox.move(int)",
            "public void NonceBox.mix()",
            "public boolean NonceBox.stream(int)",
            "public void NonceBox.tag()",
            "public void NonceBox.multiply()",
            "public void NonceBox.agree()",
            "public int NonceBox.seal() throws java.lang.IllegalArgumentException",
            "public int NonceBox.open() throws java.lang.IllegalArgumentException,java.lang.IllegalStateException",
            "public int NonceBox.box() throws java.lang.IllegalArgumentException",
            "public int NonceBox.unbox() throws java.lang.IllegalArgumentException,java.lang.IllegalStateException"));

    public static void main(String[] args) {
        Check check = new Check();
        check.same("modifiers", Modifier.toString(NonceBox.class.getModifiers()), "public final");
        check.same("the face", visibleMembers(), FACE);
        check.same("NONE", NonceBox.NONE, -1);
        for (Class<?> inside : NonceBox.class.getDeclaredClasses()) {
            int m = inside.getModifiers();
            check.that(inside + " is static", Modifier.isStatic(m));
            check.that(inside + " is not public or protected", !Modifier.isPublic(m) && !Modifier.isProtected(m));
        }
        checkNames(check);
        checkStaticFields(check);
        check.end();
    }

    private static Set<String> visibleMembers() {
        Set<String> seen = new TreeSet<>();
        for (Field f : NonceBox.class.getDeclaredFields()) {
            addVisible(seen, f.getModifiers(), f.toGenericString());
        }
        for (Method m : NonceBox.class.getDeclaredMethods()) {
            addVisible(seen, m.getModifiers(), m.toGenericString());
        }
        Arrays.stream(NonceBox.class.getDeclaredConstructors())
                .forEach(c -> addVisible(seen, c.getModifiers(), c.toGenericString()));
        return seen;
    }

    private static void addVisible(Set<String> seen, int modifiers, String member) {
        if (!Modifier.isPrivate(modifiers)) {
            seen.add(member);
        }
    }

    private static void checkNames(Check check) {
        Set<String> face = new TreeSet<>();
        Arrays.stream(NonceBox.class.getMethods()).forEach(m -> face.add(m.getName()));
        for (Method m : NonceBox.class.getDeclaredMethods()) {
            check.that(m + " bears no name of the face",
                    Modifier.isPublic(m.getModifiers()) || !face.contains(m.getName()));
        }
    }

    private static void checkStaticFields(Check check) {
        for (Class<?> each : NonceBox.class.getNestMembers()) {
            for (Field f : each.getDeclaredFields()) {
                int m = f.getModifiers();
                check.that(f + " is final if it is static", !Modifier.isStatic(m) || Modifier.isFinal(m));
            }
        }
    }
}
