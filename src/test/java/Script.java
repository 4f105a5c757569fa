import java.lang.reflect.InvocationTargetException;
import java.lang.reflect.Method;
import java.util.HashMap;
import java.util.List;
import java.util.Map;
import java.util.regex.Matcher;
import java.util.regex.Pattern;

/** Calls written as texts, "meet(0, MAX)", on an object of the class or on the oracle. */
final class Script {
    private static final Pattern CALL = Pattern.compile("(\\w+)\\((.*)\\)");
    private static final Map<String, Method> OF_CLASS = methods(WhereverBegun.class);
    private static final Map<String, Method> OF_ORACLE = methods(Oracle.class);

    private Script() {
    }

    private static Map<String, Method> methods(Class<?> c) {
        Map<String, Method> methods = new HashMap<>();
        for (Method m : c.getDeclaredMethods()) {
            methods.put(m.getName(), m);
        }
        return methods;
    }

    /** "text(1*?)" says three signs, and answers how many the last one makes. */
    static long call(Object on, String text) {
        Matcher m = CALL.matcher(text);
        if (!m.matches()) {
            throw new IllegalArgumentException("no call: " + text);
        }
        if (m.group(1).equals("text")) {
            return sayAll(on, m.group(2));
        }
        String[] written = m.group(2).isEmpty() ? new String[0] : m.group(2).split(", ");
        Integer[] args = new Integer[written.length];
        for (int n = 0; n < args.length; n++) {
            args[n] = number(written[n]);
        }
        return call(on, m.group(1), args);
    }

    static long call(Object on, String name, Integer... args) {
        Method method = (on instanceof Oracle ? OF_ORACLE : OF_CLASS).get(name);
        try {
            return ((Number) method.invoke(on, (Object[]) args)).longValue();
        } catch (IllegalAccessException | InvocationTargetException e) {
            throw new IllegalStateException(name, e);
        }
    }

    /** How many calls of the class the texts make. */
    static int calls(List<String> texts) {
        int calls = 0;
        for (String text : texts) {
            calls += text.startsWith("text(") ? text.length() - "text()".length() : 1;
        }
        return calls;
    }

    private static long sayAll(Object on, String signs) {
        long many = 0;
        for (char sign : signs.toCharArray()) {
            many = call(on, "say", (int) sign);
        }
        return many;
    }

    private static int number(String written) {
        if (written.equals("MIN")) {
            return Integer.MIN_VALUE;
        }
        return written.equals("MAX") ? Integer.MAX_VALUE : Integer.parseInt(written);
    }
}
