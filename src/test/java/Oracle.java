import java.util.ArrayList;
import java.util.Arrays;
import java.util.HashSet;
import java.util.List;
import java.util.Set;
import java.util.TreeSet;

/** The document in its plainest form: walks every stream, tries every way. For tests alone. */
final class Oracle {
    private static final long LOST = -1000000000000000000L;
    private static final String SIGNS = "123456789TAJQK*?";

    private static final class State {
        String page = "1";
        int begin = 1;
        int court = 5;
        int allow = 1022;
        int[] weights = {0, 1, 1, 1, 0, 0, 0, 0, 0, 0, 0};
        List<int[]> sights = new ArrayList<>();

        State copy() {
            State s = new State();
            s.page = page;
            s.begin = begin;
            s.court = court;
            s.allow = allow;
            s.weights = weights.clone();
            s.sights = new ArrayList<>(sights);
            return s;
        }
    }

    private interface Way {
        void tried(int[] counts, long weight);
    }

    private String pad = "";
    private State s = new State();
    private final State[] images = new State[2];

    // ---- 1

    int say(int sign) {
        if (sign < 33 || sign > 126) return -2;
        if (pad.length() == 48) return -4;
        pad += (char) sign;
        return pad.length();
    }

    int wipe() {
        int n = pad.length();
        pad = "";
        return n;
    }

    int fault() {
        if (pad.isEmpty()) return 0;
        for (int n = 1; n <= pad.length(); n++) {
            String head = pad.substring(0, n);
            boolean fine = n <= 40 && SIGNS.indexOf(head.charAt(n - 1)) >= 0
                && many(head, '*') <= 4 && many(head, '?') <= 5;
            if (!fine) return n - 1;
        }
        return -6;
    }

    int page() {
        if (fault() != -6) return -5;
        s.page = pad;
        pad = "";
        s.sights.clear();
        s.begin = 1;
        return s.page.length();
    }

    int begin(int n) {
        if (n < 1 || n > 10 || n > s.page.length()) return -2;
        int was = s.begin;
        s.begin = n;
        return was;
    }

    int court(int count) {
        if (count < 1 || count > 10) return -2;
        int was = s.court;
        s.court = count;
        return was;
    }

    int allow(int counts) {
        if (counts < 2 || counts > 2046 || counts % 2 != 0) return -2;
        int was = s.allow;
        s.allow = counts;
        return was;
    }

    int weight(int count, int v) {
        if (count < 1 || count > 10) return -1;
        if (v < 0 || v > 9) return -2;
        int[] then = s.weights.clone();
        then[count] = v;
        int all = Arrays.stream(then).sum();
        if (all < 1 || all > 12) return -2;
        int was = s.weights[count];
        s.weights = then;
        return was;
    }

    int place(int place, int what) {
        if (unknown(place)) return -1;
        if (what != 0 && what != 1) return -2;
        char sign = s.page.charAt(place);
        return what == 0 ? sign : sign == '*' || sign == '?' ? -6 : count(sign, s.court);
    }

    // ---- 2

    int out(int place) {
        if (unknown(place)) return -1;
        if (!whole()) return -3;
        return last(stream(counts(), place));
    }

    int streams() {
        if (!whole()) return -3;
        return outs(counts()).size();
    }

    int meet(int a, int b) {
        if (unknown(a) || unknown(b)) return -1;
        if (!whole()) return -3;
        return meeting(counts(), a, b);
    }

    int pass(int i) {
        if (!whole()) return -3;
        return at(passed(counts()), i);
    }

    int tree(int place, int what) {
        if (unknown(place)) return -1;
        if (what < 0 || what > 2) return -2;
        if (!whole()) return -3;
        int[] counts = counts();
        if (what == 0) {
            int n = 0;
            for (int b = 0; b < s.begin; b++) if (stream(counts, b).contains(place)) n++;
            return n;
        }
        return what == 1 ? leaders(counts, place) : chain(counts, place);
    }

    int nowhere() {
        if (!whole()) return -3;
        int n = 0;
        for (int p = 0; p < s.page.length(); p++) if (leaders(counts(), p) == 0) n++;
        return n;
    }

    int minds(int place, int count) {
        if (unknown(place) || count < 1 || count > 10) return -1;
        if (!whole()) return -3;
        return changed(place, count);
    }

    int one(int what) {
        if (what < 0 || what > 2) return -2;
        if (!whole()) return -3;
        int[] best = {-6, -6, 0};
        for (int p = s.page.length() - 1; p >= 0; p--) {
            for (int c = 10; c >= 1; c--) {
                int n = changed(p, c);
                if (n > 0 && n >= best[2]) best = new int[] {p, c, n};
            }
        }
        return best[what];
    }

    int best(int what) {
        if (what < 0 || what > 1) return -2;
        if (!whole()) return -3;
        int[] best = {0, 0};
        int was = s.court;
        for (int c = 10; c >= 1; c--) {
            s.court = c;
            for (int p = 0; p < s.page.length(); p++) {
                int n = 0;
                for (int b = 0; b < s.begin; b++) if (out(b) == p) n++;
                if (n >= best[1]) best = new int[] {c, n};
            }
        }
        s.court = was;
        return best[what];
    }

    // ---- 3

    long likely(int a, int b, int part) {
        if (unknown(a) || unknown(b)) return LOST - 1;
        if (part != 0 && part != 1) return LOST - 2;
        if (many(s.page, '*') > 0) return LOST - 3;
        long[] sum = new long[2];
        everyWay((counts, weight) -> {
            sum[1] += weight;
            if (meeting(counts, a, b) != -6) sum[0] += weight;
        });
        return lowest(sum[0], sum[1], part);
    }

    long all(int part) {
        if (part != 0 && part != 1) return LOST - 2;
        if (many(s.page, '*') > 0) return LOST - 3;
        long[] sum = new long[2];
        everyWay((counts, weight) -> {
            sum[1] += weight;
            if (outs(counts).size() == 1) sum[0] += weight;
        });
        return lowest(sum[0], sum[1], part);
    }

    // ---- 4

    int write(int wish, int place, int i) {
        if (wish == 3 && unknown(place)) return -1;
        if (wish < 0 || wish > 3) return -2;
        if (many(s.page, '?') > 0) return -3;
        int[] ways = new int[1];
        List<Integer> first = new ArrayList<>();
        everyWay((counts, weight) -> {
            if (!holds(counts, wish, place)) return;
            if (ways[0] == 0) keepFree(counts, first);
            ways[0]++;
        });
        if (i == -1) return ways[0];
        return i < 0 || i >= first.size() ? -6 : first.get(i);
    }

    int soonest(int i) {
        if (many(s.page, '?') > 0) return -3;
        int[] least = {99};
        List<Integer> first = new ArrayList<>();
        everyWay((counts, weight) -> {
            if (!holds(counts, 0, 0)) return;
            int rank = passed(counts).get(0);
            if (rank >= least[0]) return;
            least[0] = rank;
            first.clear();
            keepFree(counts, first);
        });
        if (i == -1) return least[0] == 99 ? -6 : least[0];
        return i < 0 || i >= first.size() ? -6 : first.get(i);
    }

    int seen(int from, int out) {
        if (unknown(from) || unknown(out)) return -1;
        if (s.sights.size() == 6) return -4;
        s.sights.add(new int[] {from, out});
        return s.sights.size();
    }

    int forget() {
        int n = s.sights.size();
        s.sights.clear();
        return n;
    }

    int fits() {
        if (many(s.page, '*') > 0) return -3;
        int[] ways = new int[1];
        everyWay((counts, weight) -> {
            if (allSightsHold(counts)) ways[0]++;
        });
        return ways[0];
    }

    long drawn(int k, int count, int part) {
        if (k < 0 || k >= many(s.page, '?') || count < 1 || count > 10) return LOST - 1;
        if (part != 0 && part != 1) return LOST - 2;
        if (many(s.page, '*') > 0) return LOST - 3;
        int spot = -1;
        for (int n = 0; n <= k; n++) spot = s.page.indexOf('?', spot + 1);
        int at = spot;
        long[] sum = new long[2];
        everyWay((counts, weight) -> {
            if (!allSightsHold(counts)) return;
            sum[1] += weight;
            if (counts[at] == count) sum[0] += weight;
        });
        return sum[1] == 0 ? LOST - 3 : lowest(sum[0], sum[1], part);
    }

    // ---- 5

    int shuffle(int seed) {
        if (seed < 0 || seed > 9999) return -2;
        s.page = shuffled(s.page, seed);
        return s.page.length();
    }

    int wrong(int a, int b) {
        if (unknown(a) || unknown(b)) return -1;
        if (!whole()) return -3;
        String was = s.page;
        int n = 0;
        for (int seed = 0; seed < 100; seed++) {
            s.page = shuffled(was, seed);
            if (meet(a, b) == -6) n++;
        }
        s.page = was;
        return n;
    }

    int image(int n) {
        if (n < 0 || n > 1) return -2;
        images[n] = s.copy();
        return 1;
    }

    int restore(int n) {
        if (n < 0 || n > 1) return -2;
        if (images[n] == null) return -3;
        s = images[n].copy();
        return 1;
    }

    int told(int what) {
        if (what >= 11 && what <= 20) return s.weights[what - 10];
        if (what < 0 || what > 7) return -2;
        return new int[] {pad.length(), s.page.length(), s.begin, s.court, s.allow,
            many(s.page, '*'), many(s.page, '?'), s.sights.size()}[what];
    }

    // ---- how it is reckoned

    private boolean unknown(int place) {
        return place < 0 || place >= s.page.length();
    }

    private boolean whole() {
        return many(s.page, '*') + many(s.page, '?') == 0;
    }

    private static int many(String text, char sign) {
        int n = 0;
        for (char c : text.toCharArray()) if (c == sign) n++;
        return n;
    }

    private static int count(char sign, int court) {
        int at = "A23456789T".indexOf(sign);
        return sign == '1' ? 1 : at >= 0 ? at + 1 : court;
    }

    private int[] counts() {
        int[] counts = new int[s.page.length()];
        for (int p = 0; p < counts.length; p++) counts[p] = count(s.page.charAt(p), s.court);
        return counts;
    }

    private static List<Integer> stream(int[] counts, int from) {
        List<Integer> stream = new ArrayList<>();
        for (int p = from; p < counts.length; p += counts[p]) stream.add(p);
        return stream;
    }

    private static int last(List<Integer> list) {
        return list.get(list.size() - 1);
    }

    private Set<Integer> outs(int[] counts) {
        Set<Integer> outs = new HashSet<>();
        for (int b = 0; b < s.begin; b++) outs.add(last(stream(counts, b)));
        return outs;
    }

    private static int meeting(int[] counts, int a, int b) {
        TreeSet<Integer> both = new TreeSet<>(stream(counts, a));
        both.retainAll(stream(counts, b));
        return both.isEmpty() ? -6 : both.first();
    }

    private List<Integer> passed(int[] counts) {
        List<Integer> all = stream(counts, 0);
        for (int b = 1; b < s.begin; b++) all.retainAll(stream(counts, b));
        return all;
    }

    private static int at(List<Integer> list, int i) {
        if (i == -1) return list.size();
        return i < 0 || i >= list.size() ? -6 : list.get(i);
    }

    private static int leaders(int[] counts, int place) {
        int n = 0;
        for (int p = 0; p < place; p++) if (p + counts[p] == place) n++;
        return n;
    }

    private static int chain(int[] counts, int place) {
        int most = 0;
        for (int p = 0; p < place; p++) {
            List<Integer> stream = stream(counts, p);
            most = Math.max(most, stream.indexOf(place));
        }
        return most;
    }

    private int changed(int place, int count) {
        int[] counts = counts();
        int[] then = counts.clone();
        then[place] = count;
        int n = 0;
        for (int b = 0; b < s.begin; b++) {
            if (last(stream(counts, b)) != last(stream(then, b))) n++;
        }
        return n;
    }

    private boolean holds(int[] counts, int wish, int place) {
        switch (wish) {
            case 0: return outs(counts).size() == 1;
            case 1:
                for (int a = 0; a < s.begin; a++) {
                    for (int b = 0; b < a; b++) if (meeting(counts, a, b) != -6) return false;
                }
                return true;
            case 2: return outs(counts).size() == 2;
            default: return passed(counts).contains(place);
        }
    }

    private boolean allSightsHold(int[] counts) {
        for (int[] sight : s.sights) {
            if (last(stream(counts, sight[0])) != sight[1]) return false;
        }
        return true;
    }

    private void keepFree(int[] counts, List<Integer> kept) {
        for (int p = 0; p < counts.length; p++) if (s.page.charAt(p) == '*') kept.add(counts[p]);
    }

    private void everyWay(Way way) {
        everyWay(counts(), 0, 1, way);
    }

    private void everyWay(int[] counts, int from, long weight, Way way) {
        for (int p = from; p < counts.length; p++) {
            char sign = s.page.charAt(p);
            if (sign != '*' && sign != '?') continue;
            for (int c = 1; c <= 10; c++) {
                long v = sign == '?' ? s.weights[c] : (s.allow >> c) & 1;
                if (v == 0) continue;
                counts[p] = c;
                everyWay(counts, p + 1, weight * v, way);
            }
            return;
        }
        way.tried(counts, weight);
    }

    private static long lowest(long upper, long lower, int part) {
        for (long d = lower; d > 1; d--) {
            if (upper % d == 0 && lower % d == 0) return (part == 0 ? upper : lower) / d;
        }
        return part == 0 ? upper : lower;
    }

    private static String shuffled(String page, int seed) {
        StringBuilder text = new StringBuilder(page);
        for (int i = page.length() - 1; i >= 1; i--) {
            seed = (seed * 75 + 74) % 65537;
            int j = seed % (i + 1);
            char a = text.charAt(i);
            text.setCharAt(i, text.charAt(j));
            text.setCharAt(j, a);
        }
        return text.toString();
    }
}
