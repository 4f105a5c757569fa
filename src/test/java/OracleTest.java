import java.util.Random;

/** Random runs of calls, all promises, against the oracle; the seeds are fixed. */
public final class OracleTest {
    private static final Due due = new Due();
    private static final String SIGNS = "123456789TAJQK";
    private static final int[] ODD = {Integer.MIN_VALUE, Integer.MAX_VALUE, -1, -2, 40, 41, 64, 100, 1 << 16};

    private final Random random;
    private final WhereverBegun x = new WhereverBegun();
    private final Oracle o = new Oracle();
    private final int run;
    private final int mostOpen;
    private int calls = 0;

    private OracleTest(int run, int mostOpen) {
        this.run = run;
        this.mostOpen = mostOpen;
        this.random = new Random(run * 7919L + 1);
    }

    public static void main(String[] args) {
        for (int run = 1; run <= 400; run++) new OracleTest(run, 2).go();
        for (int run = 401; run <= 440; run++) new OracleTest(run, 3).go();
        for (int run = 441; run <= 446; run++) new OracleTest(run, 5).go();
        due.end();
    }

    private void go() {
        while (calls < 440) {
            if (random.nextInt(25) == 0) newPage();
            else call(random.nextInt(31));
        }
    }

    private void is(String call, long got, long want) {
        calls++;
        due.is("run " + run + ", call " + calls + ": " + call, got, want);
    }

    private void newPage() {
        is("wipe", x.wipe(), o.wipe());
        String text = text();
        for (char sign : text.toCharArray()) is("say " + sign, x.say(sign), o.say(sign));
        is("fault", x.fault(), o.fault());
        is("page " + text, x.page(), o.page());
        int n = 1 + random.nextInt(10);
        is("begin " + n, x.begin(n), o.begin(n));
    }

    private String text() {
        int length = random.nextInt(8) == 0 ? 40 : 1 + random.nextInt(30);
        int most = random.nextBoolean() ? 3 : SIGNS.length();
        StringBuilder text = new StringBuilder();
        for (int p = 0; p < length; p++) text.append(SIGNS.charAt(random.nextInt(most)));
        int kind = random.nextInt(5);
        int open = 1 + random.nextInt(mostOpen);
        for (int n = 0; n < open && kind != 0; n++) {
            boolean free = kind == 1 || kind == 2 && random.nextInt(4) == 0;
            int p = random.nextInt(kind == 4 ? Math.min(length, 8) : length);
            text.setCharAt(p, free ? '*' : '?');
        }
        return text.toString();
    }

    private int place() {
        return random.nextInt(12) == 0 ? odd() : random.nextInt(Math.max(1, o.told(1)));
    }

    private int small(int least, int most) {
        return random.nextInt(30) == 0 ? odd() : least + random.nextInt(most - least + 1);
    }

    private int odd() {
        return ODD[random.nextInt(ODD.length)];
    }

    private void call(int which) {
        int a = place();
        int b = place();
        int i = small(-2, 5);
        int part = small(0, 1);
        int what = small(-1, 3);
        int count = small(0, 11);
        int v = small(-1, 5);
        switch (which) {
            case 0 -> is("say " + (count + 40), x.say(count + 40), o.say(count + 40));
            case 1 -> is("wipe", x.wipe(), o.wipe());
            case 2 -> is("fault", x.fault(), o.fault());
            case 3 -> is("begin " + count, x.begin(count), o.begin(count));
            case 4 -> is("court " + count, x.court(count), o.court(count));
            case 5 -> {
                int bits = random.nextInt(8) == 0 ? odd() : random.nextInt(1024) * 2;
                is("allow " + bits, x.allow(bits), o.allow(bits));
            }
            case 6 -> is("weight " + count + " " + v, x.weight(count, v), o.weight(count, v));
            case 7 -> is("place " + a + " " + what, x.place(a, what), o.place(a, what));
            case 8 -> is("out " + a, x.out(a), o.out(a));
            case 9 -> is("streams", x.streams(), o.streams());
            case 10 -> is("meet " + a + " " + b, x.meet(a, b), o.meet(a, b));
            case 11 -> is("pass " + i, x.pass(i), o.pass(i));
            case 12 -> is("tree " + a + " " + what, x.tree(a, what), o.tree(a, what));
            case 13 -> is("nowhere", x.nowhere(), o.nowhere());
            case 14 -> is("minds " + a + " " + count, x.minds(a, count), o.minds(a, count));
            case 15 -> is("one " + what, x.one(what), o.one(what));
            case 16 -> is("best " + what, x.best(what), o.best(what));
            case 17 -> is("likely " + a + " " + b, x.likely(a, b, part), o.likely(a, b, part));
            case 18 -> is("all " + part, x.all(part), o.all(part));
            default -> callMore(which, a, b, i, part, count);
        }
    }

    private void callMore(int which, int a, int b, int i, int part, int count) {
        int wish = small(-1, 4);
        int n = small(-1, 2);
        int told = small(-1, 21);
        int seed = random.nextInt(10) == 0 ? odd() : random.nextInt(10000);
        switch (which) {
            case 19 -> is("write " + wish + " " + a + " " + i, x.write(wish, a, i), o.write(wish, a, i));
            case 20 -> is("soonest " + i, x.soonest(i), o.soonest(i));
            case 21, 22 -> {
                // an OUT that can be, most times: else no way fits
                int out = random.nextInt(4) == 0 ? b : o.told(1) - 1 - random.nextInt(Math.min(3, o.told(1)));
                is("seen " + a + " " + out, x.seen(a, out), o.seen(a, out));
            }
            case 23 -> is("forget", x.forget(), o.forget());
            case 24 -> is("fits", x.fits(), o.fits());
            case 25 -> is("drawn " + i + " " + count, x.drawn(i, count, part), o.drawn(i, count, part));
            case 26 -> is("shuffle " + seed, x.shuffle(seed), o.shuffle(seed));
            case 27 -> is("wrong " + a + " " + b, x.wrong(a, b), o.wrong(a, b));
            case 28 -> is("image " + n, x.image(n), o.image(n));
            case 29 -> is("restore " + n, x.restore(n), o.restore(n));
            default -> is("told " + told, x.told(told), o.told(told));
        }
    }
}
