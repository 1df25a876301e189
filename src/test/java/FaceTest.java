import java.lang.reflect.Constructor;
import java.lang.reflect.Field;
import java.lang.reflect.Method;
import java.lang.reflect.Modifier;
import java.nio.charset.StandardCharsets;
import java.nio.file.Files;
import java.nio.file.Path;
import java.util.ArrayList;
import java.util.HashSet;
import java.util.List;
import java.util.Set;
import java.util.TreeSet;
import java.util.regex.Pattern;

/** The public face is the document's, and the source keeps to the part of Java that is left. */
public final class FaceTest {
    private static final Check check = new Check("FaceTest");

    private static final String[] FACE = {
        "write(int, long)", "wipe()", "fault()", "fair()", "about(int)", "holds(int)", "had(int)",
        "worth(int, int)", "value(int, int, int)", "may(int, int)", "exchange(int, int)", "sea(int)", "undo()",
        "judge(int, int)", "longest()", "shortest()", "runs()", "want(int, int)", "fewest()", "plan(int)",
        "mayComeTo(int)", "begin(int)", "rings()", "ringAt(int)", "frees(int)", "turns(int, int)", "first(int)",
        "sight(int, boolean)", "unsee()", "lists()", "listed(int)", "keep(int)", "again(int)"};

    private static final String[] CONSTANTS = {"UNKNOWN", "BAD", "LATE", "FULL", "NONE"};

    // Words of Java, and of its library, that the program does without.
    private static final String[] FORBIDDEN = {
        "\\bthrow\\b", "\\bthrows\\b", "\\btry\\b", "\\bcatch\\b", "\\bfinally\\b", "\\bsynchronized\\b",
        "\\bassert\\b", "\\bimport\\b", "\\bpackage\\b", "\\bprotected\\b", "\\bvolatile\\b", "->", "::", "\\bObject\\b",
        "\\bSystem\\.(?!arraycopy\\b)", "Exact\\b", "\\bnew \\w+\\([^)]*\\) *\\{"};

    public static void main(String[] args) throws Exception {
        constants();
        methods();
        openMembers();
        source();
        check.end();
    }

    private static void constants() throws Exception {
        int[] due = {-1, -2, -3, -4, -9};
        for (int i = 0; i < CONSTANTS.length; i++) {
            Field f = NeverHadBefore.class.getField(CONSTANTS[i]);
            check.due(CONSTANTS[i], f.getInt(null), due[i]);
            check.due(CONSTANTS[i] + " is final", f.getModifiers(),
                Modifier.PUBLIC | Modifier.STATIC | Modifier.FINAL);
        }
    }

    private static String told(Method m) {
        List<String> kinds = new ArrayList<>();
        for (Class<?> kind : m.getParameterTypes()) {
            kinds.add(kind.getName());
        }
        return m.getName() + "(" + String.join(", ", kinds) + ")";
    }

    private static void methods() {
        Set<String> open = new TreeSet<>();
        Set<String> names = new HashSet<>();
        for (Method m : NeverHadBefore.class.getDeclaredMethods()) {
            if (Modifier.isPublic(m.getModifiers())) {
                open.add(told(m));
                names.add(m.getName());
                check.due(told(m) + " answers an int", m.getReturnType() == int.class ? 1 : 0, 1);
            }
        }
        check.due("the public methods", open.equals(Set.of(FACE)) ? 1 : 0, 1);
        noPublicName(NeverHadBefore.class, names);
        for (Class<?> inside : NeverHadBefore.class.getDeclaredClasses()) {
            noPublicName(inside, names);
        }
    }

    private static void noPublicName(Class<?> kind, Set<String> names) {
        for (Method m : kind.getDeclaredMethods()) {
            boolean hidden = Modifier.isPrivate(m.getModifiers());
            check.due(told(m) + " bears a public name", hidden && names.contains(m.getName()) ? 1 : 0, 0);
        }
    }

    private static boolean isOpen(int modifiers) {
        return !Modifier.isPrivate(modifiers);
    }

    private static void openMembers() {
        Class<?> face = NeverHadBefore.class;
        check.due("the class", face.getModifiers(), Modifier.PUBLIC | Modifier.FINAL);
        int open = 0;
        for (Field f : face.getDeclaredFields()) {
            open += isOpen(f.getModifiers()) && !f.isSynthetic() ? 1 : 0;
        }
        check.due("open fields", open, CONSTANTS.length);
        open = 0;
        for (Method m : face.getDeclaredMethods()) {
            open += isOpen(m.getModifiers()) && !m.isSynthetic() ? 1 : 0;
        }
        check.due("open methods", open, FACE.length);
        open = 0;
        for (Constructor<?> c : face.getDeclaredConstructors()) {
            open += isOpen(c.getModifiers()) && !c.isSynthetic() && c.getParameterCount() == 0 ? 1 : 0;
        }
        check.due("open constructors", open, 1);
        for (Class<?> inside : face.getDeclaredClasses()) {
            boolean fits = Modifier.isStatic(inside.getModifiers()) && !Modifier.isPublic(inside.getModifiers());
            check.due("the class inside " + inside.getName(), fits ? 1 : 0, 1);
        }
    }

    private static void source() throws Exception {
        String source = Files.readString(Path.of("src/main/java/NeverHadBefore.java"), StandardCharsets.ISO_8859_1);
        String code = source.replaceAll("(?s)/\\*.*?\\*/", "").replaceAll("//[^\n]*", "");
        for (String word : FORBIDDEN) {
            check.due("source holds " + word, Pattern.compile(word).matcher(code).find() ? 1 : 0, 0);
        }
    }
}
