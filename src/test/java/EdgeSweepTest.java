import java.lang.reflect.Method;
import java.lang.reflect.Modifier;
import java.util.ArrayList;
import java.util.List;

/**
 * Every call of the face, with arguments on both sides of every limit that the document names, in
 * states at these limits: it answers as the oracle does, and if it is refused, or only asks, all is
 * as it was before.
 */
public final class EdgeSweepTest {
    private static final Due due = new Due();
    private static final int MIN = Integer.MIN_VALUE;
    private static final int MAX = Integer.MAX_VALUE;
    private static final int[] ONE = {MIN, MIN + 1, -10, -7, -6, -5, -4, -3, -2, -1, 0, 1, 2, 3, 4, 5, 6, 7, 8, 9, 10, 11,
        12, 19, 20, 21, 31, 32, 33, 34, 39, 40, 41, 47, 48, 49, 63, 64, 125, 126, 127, 128, 1022, 1023, 1024, 1025, 2046,
        2047, 2048, 2050, 9998, 9999, 10000, 65536, 65537, MAX - 1, MAX};
    private static final int[] TWO = {MIN, -2, -1, 0, 1, 2, 3, 4, 5, 6, 9, 10, 11, 12, 13, 39, 40, 64, MAX};
    private static final int[] THREE = {MIN, -2, -1, 0, 1, 2, 3, 4, 5, 10, 11, 40, MAX};
    /** They change something when they are taken. */
    private static final List<String> CHANGE = List.of("say", "wipe", "page", "begin", "court", "allow", "weight",
        "seen", "forget", "shuffle", "image", "restore");
    private static final String ONES = "1".repeat(40);
    private static final String[][] STATES = {
        {},
        {"text(" + ONES + ")", "page()", "begin(10)", "text(" + ONES + "11111111)", "image(1)"},
        {"text(2319K)", "page()", "begin(3)", "court(1)", "seen(0, 4)", "image(0)", "text(1*)"},
        {"text(T1111111111)", "page()", "begin(10)", "weight(10, 9)", "text(*****)"},
        {"text(?9?)", "page()", "begin(2)", "seen(0, 2)", "weight(2, 9)", "text(0)"},
        {"text(?9?)", "page()", "seen(1, 0)", "image(0)", "weight(2, 0)", "weight(3, 0)", "image(1)"},
        {"text(?1Q?2)", "page()", "begin(5)", "seen(0, 4)", "seen(1, 4)", "seen(2, 2)", "seen(4, 4)", "seen(4, 4)",
            "seen(4, 4)", "text(" + ONES + ")"},
        {"text(*9*1)", "page()", "begin(3)", "allow(2046)", "text(?????)"},
        {"text(*219)", "page()", "begin(2)", "allow(12)", "seen(0, 3)", "text(??????)"},
        {"text(1*?K)", "page()", "begin(4)", "court(10)", "seen(3, 3)", "image(0)", "text(" + ONES + "1)"}};

    public static void main(String[] args) {
        for (String[] state : STATES) {
            for (Method m : WhereverBegun.class.getDeclaredMethods()) {
                if (Modifier.isPublic(m.getModifiers())) {
                    for (Integer[] with : arguments(m.getParameterCount())) {
                        tryCall(state, m.getName(), with);
                    }
                }
            }
        }
        due.end();
    }

    private static List<Integer[]> arguments(int many) {
        List<Integer[]> all = new ArrayList<>();
        int[] some = many == 3 ? THREE : many == 2 ? TWO : ONE;
        int ways = (int) Math.pow(some.length, many);
        for (int way = 0; way < ways; way++) {
            Integer[] with = new Integer[many];
            int rest = way;
            for (int n = 0; n < many; n++) {
                with[n] = some[rest % some.length];
                rest /= some.length;
            }
            all.add(with);
        }
        return all;
    }

    private static <T> T given(T on, String[] state) {
        for (String call : state) {
            Script.call(on, call);
        }
        return on;
    }

    private static void tryCall(String[] state, String name, Integer[] with) {
        WhereverBegun x = given(new WhereverBegun(), state);
        long want = Script.call(given(new Oracle(), state), name, with);
        String call = List.of(state) + " " + name + List.of(with);
        due.is(call, Script.call(x, name, with), want);
        if (want < 0 || !CHANGE.contains(name)) {
            int calls = Script.calls(List.of(state));
            String before = Portrait.of(given(new WhereverBegun(), state), calls);
            due.holds(call + " changes nothing", Portrait.of(x, calls + 1).equals(before));
        }
    }
}
