import java.io.IOException;
import java.lang.reflect.Constructor;
import java.lang.reflect.Field;
import java.lang.reflect.Method;
import java.lang.reflect.Modifier;
import java.nio.file.Files;
import java.nio.file.Path;
import java.util.ArrayList;
import java.util.Arrays;
import java.util.List;
import java.util.Set;
import java.util.TreeSet;
import java.util.regex.Pattern;

/** The public face is the document's, and the file keeps to what of LANGUAGE.md can be looked at. */
public final class FaceTest {
    private static final Due due = new Due();
    private static final String FILE = "src/main/java/WhereverBegun.java";
    private static final String[] METHODS = {
        "int say(int)", "int wipe()", "int fault()", "int page()", "int begin(int)", "int court(int)",
        "int allow(int)", "int weight(int,int)", "int place(int,int)", "int out(int)", "int streams()",
        "int meet(int,int)", "int pass(int)", "int tree(int,int)", "int nowhere()", "int minds(int,int)",
        "int one(int)", "int best(int)", "long likely(int,int,int)", "long all(int)",
        "int write(int,int,int)", "int soonest(int)", "int seen(int,int)", "int forget()", "int fits()",
        "long drawn(int,int,int)", "int shuffle(int)", "int wrong(int,int)", "int image(int)",
        "int restore(int)", "int told(int)"};

    public static void main(String[] args) throws IOException {
        constants();
        methods();
        members();
        nested();
        text(Files.readString(Path.of(FILE)));
        headings(Files.readString(Path.of(FILE)));
        due.end();
    }

    private static void constants() {
        due.is("NONE", WhereverBegun.NONE, -6);
        due.is("UNKNOWN", WhereverBegun.UNKNOWN, -1);
        due.is("OUTSIDE", WhereverBegun.OUTSIDE, -2);
        due.is("STATE", WhereverBegun.STATE, -3);
        due.is("FULL", WhereverBegun.FULL, -4);
        due.is("NO", WhereverBegun.NO, -5);
        due.is("LOST", WhereverBegun.LOST, -1000000000000000000L);
    }

    private static void methods() {
        Set<String> got = new TreeSet<>();
        Set<String> names = new TreeSet<>();
        for (Method m : WhereverBegun.class.getDeclaredMethods()) {
            if (Modifier.isPublic(m.getModifiers())) {
                due.holds(m + " is no static one", !Modifier.isStatic(m.getModifiers()));
                got.add(signature(m));
                names.add(m.getName());
            }
        }
        Set<String> want = new TreeSet<>(Arrays.asList(METHODS));
        due.holds("the face is " + want + ", not " + got, got.equals(want));
        List<Class<?>> classes = new ArrayList<>(Arrays.asList(WhereverBegun.class.getDeclaredClasses()));
        classes.add(WhereverBegun.class);
        for (Class<?> c : classes) {
            for (Method m : c.getDeclaredMethods()) {
                boolean face = c == WhereverBegun.class && Modifier.isPublic(m.getModifiers());
                due.holds(m + " bears a name of the face", face || !names.contains(m.getName()));
                due.holds(m + " takes seven at most", m.getParameterCount() <= 7);
            }
        }
    }

    private static String signature(Method m) {
        StringBuilder text = new StringBuilder(m.getReturnType() + " " + m.getName() + "(");
        for (Class<?> c : m.getParameterTypes()) {
            text.append(text.charAt(text.length() - 1) == '(' ? "" : ",").append(c);
        }
        return text.append(")").toString();
    }

    private static void members() {
        int modifiers = WhereverBegun.class.getModifiers();
        due.holds("public and final", Modifier.isPublic(modifiers) && Modifier.isFinal(modifiers));
        Constructor<?>[] made = WhereverBegun.class.getDeclaredConstructors();
        due.is("constructors", made.length, 1);
        due.holds("public constructor", Modifier.isPublic(made[0].getModifiers()));
        due.is("its parameters", made[0].getParameterCount(), 0);
        for (Method m : WhereverBegun.class.getDeclaredMethods()) {
            boolean fine = Modifier.isPublic(m.getModifiers()) || Modifier.isPrivate(m.getModifiers());
            due.holds(m + " is public or private", fine || m.isSynthetic());
        }
        Set<String> open = new TreeSet<>();
        for (Field f : WhereverBegun.class.getDeclaredFields()) {
            if (!Modifier.isPrivate(f.getModifiers())) {
                open.add(f.getName());
            }
            due.holds(f + ": static is final",
                !Modifier.isStatic(f.getModifiers()) || Modifier.isFinal(f.getModifiers()));
        }
        due.holds("open fields " + open, open.equals(Set.of("NONE", "UNKNOWN", "OUTSIDE", "STATE", "FULL", "NO", "LOST")));
    }

    private static void nested() {
        Class<?>[] classes = WhereverBegun.class.getDeclaredClasses();
        due.holds("twelve classes at most", classes.length < 12);
        for (Class<?> c : classes) {
            due.holds(c + " is static", Modifier.isStatic(c.getModifiers()));
            due.holds(c + " is not public", !Modifier.isPublic(c.getModifiers()));
            int fields = 0;
            for (Field f : c.getDeclaredFields()) {
                fields += Modifier.isStatic(f.getModifiers()) ? 0 : 1;
            }
            due.holds(c + " has twenty fields at most", fields <= 20);
        }
    }

    /** What the interface says ahead of the calls; they stand in the document's order. */
    private static void headings(String source) {
        String[] firstCalls = {"say", "out", "likely", "write", "shuffle"};
        String[] headings = {"1 pages", "2 streams", "3 chances", "4 writing, sights", "5 packs"};
        int at = 0;
        int heading = 0;
        for (String method : METHODS) {
            String name = method.substring(method.indexOf(' ') + 1, method.indexOf('('));
            if (heading < firstCalls.length && name.equals(firstCalls[heading])) {
                at = found(source, "\n    // ---- " + headings[heading] + "\n", at);
                heading++;
            }
            at = found(source, "\n    public " + method.substring(0, method.indexOf('(') + 1), at);
        }
        due.is("headings", heading, headings.length);
    }

    private static int found(String source, String words, int from) {
        int at = source.indexOf(words, from);
        due.holds("in its order:" + words, at >= 0);
        return Math.max(at, from);
    }

    private static void text(String source) {
        String[] banned = {"->", "::", "\\bthrows?\\b", "\\btry\\b", "\\bcatch\\b", "\\bfinally\\b", "\\bassert\\b",
            "synchronized", "instanceof", "\\bpackage\\b", "String", "System\\.out", "Exact", "NaN", "float", "double",
            "\\bwhile\\b", "Object"};
        String code = source.replaceAll("(?s)/\\*.*?\\*/", "").replaceAll("//[^\n]*", "");
        for (String word : banned) {
            due.holds("no " + word, !Pattern.compile(word).matcher(code).find());
        }
        for (String line : code.split("\n")) {
            boolean fine = !line.startsWith("import") || line.equals("import java.util.Arrays;");
            due.holds(line, fine);
        }
        due.is("what is made outside of constructors and fields", madeInMethods(code), 0);
        longMethods(source);
    }

    /** Every 'new' stands in a field's own line or in the outer constructor. */
    private static int madeInMethods(String code) {
        int made = 0;
        boolean constructor = false;
        for (String line : code.split("\n")) {
            if (line.startsWith("    public WhereverBegun()")) {
                constructor = true;
            } else if (line.equals("    }")) {
                constructor = false;
            }
            boolean field = line.matches(" {8}(private )?(final )?(int|long|char)\\[\\] \\w+ = new .*");
            if (line.contains("new ") && !constructor && !field) {
                System.out.println("made in a method: " + line);
                made++;
            }
        }
        return made;
    }

    private static void longMethods(String source) {
        int lines = 0;
        for (String line : source.split("\n")) {
            boolean head = line.matches(" {4,8}(public |private |static )*[\\w\\[\\]]+ \\w+\\(.*\\) \\{");
            lines = head ? 1 : lines + 1;
            if (line.matches(" {4,8}\\}")) {
                due.holds("a method of " + lines + " lines before: " + line, lines <= 60);
                lines = 0;
            }
        }
    }
}
