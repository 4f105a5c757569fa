import java.io.IOException;
import java.lang.reflect.Method;
import java.lang.reflect.Modifier;
import java.nio.file.DirectoryStream;
import java.nio.file.Files;
import java.nio.file.Path;
import java.util.Map;
import java.util.Set;
import java.util.TreeSet;
import java.util.regex.Matcher;
import java.util.regex.Pattern;

/** README.md is true: its examples answer as they say, and it leaves out no call and no test. */
public final class ReadmeTest {
    private static final Due due = new Due();
    private static final Pattern CALL = Pattern.compile("x\\.(\\w+)\\((.*)\\); +// (LOST \\+ )?(\\w+|-\\d+)(:.*)?");
    private static final Pattern TEXT =
        Pattern.compile("for \\(char sign : \"(.*)\"\\.toCharArray\\(\\)\\) x\\.say\\(sign\\);");
    private static final Map<String, Integer> NAMES = Map.of("NONE", WhereverBegun.NONE,
        "UNKNOWN", WhereverBegun.UNKNOWN, "OUTSIDE", WhereverBegun.OUTSIDE, "STATE", WhereverBegun.STATE,
        "FULL", WhereverBegun.FULL, "NO", WhereverBegun.NO);

    private static final Set<String> called = new TreeSet<>();
    private static final Set<String> answered = new TreeSet<>();
    private static WhereverBegun x = null;

    public static void main(String[] args) throws IOException {
        String readme = Files.readString(Path.of("README.md"));
        examples(readme);
        due.holds("answers told by name: " + answered, answered.equals(new TreeSet<>(NAMES.keySet())));
        for (Method m : WhereverBegun.class.getDeclaredMethods()) {
            if (Modifier.isPublic(m.getModifiers())) {
                due.holds("an example has " + m.getName(), called.contains(m.getName()));
            }
        }
        due.holds("how to run the tests", readme.contains("\n    .ci/run\n"));
        try (DirectoryStream<Path> tests = Files.newDirectoryStream(Path.of("src/test/java"), "*Test.java")) {
            for (Path test : tests) {
                String name = test.getFileName().toString().replace(".java", "");
                due.holds("the list of tests has " + name, readme.contains("`" + name + "`"));
            }
        }
        due.end();
    }

    private static void examples(String readme) {
        boolean example = false;
        for (String line : readme.split("\n")) {
            if (line.startsWith("```")) {
                example = line.equals("```java");
            } else if (example) {
                step(line);
            }
        }
    }

    private static void step(String line) {
        Matcher text = TEXT.matcher(line);
        Matcher call = CALL.matcher(line);
        if (line.equals("WhereverBegun x = new WhereverBegun();")) {
            x = new WhereverBegun();
        } else if (text.matches()) {
            called.add("say");
            due.is(line, Script.call(x, "text(" + text.group(1) + ")"), text.group(1).length());
        } else if (call.matches()) {
            called.add(call.group(1));
            String given = call.group(2).equals("'1'") ? "49" : call.group(2);
            long lost = call.group(3) == null ? 0 : WhereverBegun.LOST;
            due.is(line, Script.call(x, call.group(1) + "(" + given + ")"), lost + answer(call.group(4)));
        } else {
            due.holds("this is no example: " + line, false);
        }
    }

    private static long answer(String told) {
        if (NAMES.containsKey(told)) {
            answered.add(told);
            return NAMES.get(told);
        }
        return Long.parseLong(told);
    }
}
