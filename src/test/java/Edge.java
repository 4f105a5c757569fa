import java.util.ArrayList;
import java.util.Arrays;
import java.util.List;

/**
 * Sentences of the document that name a boundary, each with the last input that is taken and the
 * first that is refused. Every call is made on an object of its own, which the given calls made.
 */
final class Edge {
    private final Due due = new Due();
    private final List<String> bare = new ArrayList<>();
    private String sentence = "";
    private int rows = 1;
    private int sentences = 0;
    private List<String> given = List.of();
    private String before = null;

    /** The words stand in the document as they are written here. */
    void sentence(String words) {
        noteBare();
        sentence = words;
        sentences++;
        rows = 0;
        given();
    }

    void given(String... calls) {
        given = Arrays.asList(calls);
        before = null;
    }

    /** The page, with so many beginnings. */
    void page(String text, int beginnings, String... calls) {
        List<String> all = new ArrayList<>(List.of("text(" + text + ")", "page()", "begin(" + beginnings + ")"));
        all.addAll(Arrays.asList(calls));
        given(all.toArray(new String[0]));
    }

    /** A call that may change something; afterwards the other calls, "told(2) = 10", answer so. */
    void taken(String call, long want, String... after) {
        WhereverBegun x = made();
        is(call, Script.call(x, call), want);
        for (String row : after) {
            String[] parts = row.split(" = ");
            is(call + ", then " + parts[0], Script.call(x, parts[0]), Long.parseLong(parts[1]));
        }
    }

    /** A call that is refused, or that only asks: all is as it was before. */
    void same(String call, long want) {
        WhereverBegun x = made();
        is(call, Script.call(x, call), want);
        if (before == null) {
            before = Portrait.of(made(), Script.calls(given));
        }
        String after = Portrait.of(x, Script.calls(given) + 1);
        if (!after.equals(before)) {
            is(call + " changes something of " + before + " to " + after, 0, 1);
        }
    }

    void refused(String call, long want) {
        same(call, want);
    }

    void asked(String call, long want) {
        same(call, want);
    }

    /** Both parts of a fraction; "likely(0, 1" is the call without its part. */
    void fraction(String call, long upper, long lower) {
        String head = call.endsWith("(") ? call : call + ", ";
        asked(head + "0)", upper);
        asked(head + "1)", lower);
    }

    WhereverBegun made() {
        WhereverBegun x = new WhereverBegun();
        for (String call : given) {
            long answer = Script.call(x, call);
            if (answer < 0) {
                is("given " + call, answer, 0);
            }
        }
        return x;
    }

    void is(String what, long got, long want) {
        rows++;
        due.is("[" + sentence + "] " + given + " " + what, got, want);
    }

    private void noteBare() {
        if (rows == 0) {
            bare.add(sentence);
        }
    }

    void end() {
        noteBare();
        due.holds("sentences without a test: " + bare, bare.isEmpty());
        System.out.print(sentences + " sentences, ");
        due.end();
    }
}
