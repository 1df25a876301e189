import java.lang.reflect.Method;
import java.lang.reflect.Modifier;
import java.nio.charset.StandardCharsets;
import java.nio.file.Files;
import java.nio.file.Path;
import java.util.Set;
import java.util.TreeSet;
import java.util.regex.Matcher;
import java.util.regex.Pattern;
import java.util.stream.Collectors;
import java.util.stream.Stream;

/** README.md says what is so: each call of its example answers as told there, and no call and no test is left out. */
public final class ReadmeTest {
    private static final Pattern EXAMPLE = Pattern.compile("(?s)```java\n(.*?)```");
    private static final Pattern CALL = Pattern.compile("x\\.(\\w+)\\((.*?)\\);\\s*// (-?\\d+)(:.*)?");
    private static final Pattern TEST_ROW = Pattern.compile("(?m)^\\| `(\\w+Test)` \\|");
    private static final Pattern REFUSAL_ROW = Pattern.compile("(?m)^\\| `([A-Z]+)` \\| (-\\d+) \\|");
    private static final Check check = new Check("ReadmeTest");

    public static void main(String[] args) throws Exception {
        String readme = Files.readString(Path.of("README.md"), StandardCharsets.UTF_8);
        example(readme);
        refusals(readme);
        tests(readme);
        check.end();
    }

    private static void dueSame(String what, Set<String> told, Set<String> due) {
        check.due(what + ": told " + told + ", due are " + due, told.equals(due) ? 1 : 0, 1);
    }

    private static void example(String readme) throws Exception {
        Matcher block = EXAMPLE.matcher(readme);
        check.due("there is an example", block.find() ? 1 : 0, 1);
        NeverHadBefore x = new NeverHadBefore();
        Set<String> told = new TreeSet<>();
        for (String line : block.group(1).split("\n")) {
            if (line.startsWith("x.")) {
                told.add(answer(x, line));
            }
        }
        Set<String> due = Stream.of(NeverHadBefore.class.getDeclaredMethods())
            .filter(m -> Modifier.isPublic(m.getModifiers())).map(Method::getName).collect(Collectors.toSet());
        dueSame("calls of the example", told, due);
    }

    /** Makes the call of a line, holds its answer against the one told there, and tells its name. */
    private static String answer(NeverHadBefore x, String line) throws Exception {
        Matcher call = CALL.matcher(line);
        check.due("a call and its answer: " + line, call.matches() ? 1 : 0, 1);
        for (Method m : NeverHadBefore.class.getDeclaredMethods()) {
            if (m.getName().equals(call.group(1)) && Modifier.isPublic(m.getModifiers())) {
                Object got = m.invoke(x, values(m.getParameterTypes(), call.group(2)));
                check.due(line, (Integer) got, Integer.parseInt(call.group(3)));
            }
        }
        return call.group(1);
    }

    private static Object[] values(Class<?>[] kinds, String told) {
        String[] words = told.isEmpty() ? new String[0] : told.split(", ");
        check.due("how many values: " + told, words.length, kinds.length);
        Object[] values = new Object[kinds.length];
        for (int i = 0; i < kinds.length; i++) {
            if (kinds[i] == boolean.class) {
                values[i] = Boolean.valueOf(words[i]);
            } else if (kinds[i] == long.class) {
                values[i] = Long.decode(words[i].replaceFirst("L$", ""));
            } else {
                values[i] = Integer.valueOf(words[i]);
            }
        }
        return values;
    }

    private static void refusals(String readme) throws Exception {
        Set<String> told = new TreeSet<>();
        Matcher row = REFUSAL_ROW.matcher(readme);
        while (row.find()) {
            told.add(row.group(1));
            check.due(row.group(), NeverHadBefore.class.getField(row.group(1)).getInt(null),
                Integer.parseInt(row.group(2)));
        }
        dueSame("refusals", told, Set.of("UNKNOWN", "BAD", "LATE", "FULL"));
        check.due("NONE is told", readme.contains("`NONE` (" + NeverHadBefore.NONE + ")") ? 1 : 0, 1);
    }

    private static void tests(String readme) throws Exception {
        Set<String> told = new TreeSet<>();
        Matcher row = TEST_ROW.matcher(readme);
        while (row.find()) {
            told.add(row.group(1));
        }
        try (Stream<Path> files = Files.list(Path.of("src/test/java"))) {
            Set<String> due = files.map(file -> file.getFileName().toString())
                .filter(name -> name.endsWith("Test.java"))
                .map(name -> name.substring(0, name.length() - ".java".length()))
                .collect(Collectors.toSet());
            dueSame("tests of the table", told, due);
        }
    }
}
