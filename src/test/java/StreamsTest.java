/** Promises 11 to 19. */
public final class StreamsTest {
    private static final Due due = new Due();
    private static final int MIN = Integer.MIN_VALUE;
    private static final int MAX = Integer.MAX_VALUE;

    public static void main(String[] args) {
        outs();
        meetings();
        passed();
        trees();
        changed();
        bestCourts();
        notWhole();
        due.end();
    }

    /** 0 -> 2 -> 3 -> out, 1 -> 4 -> out, 5 -> out. */
    private static WhereverBegun six() {
        WhereverBegun x = new WhereverBegun();
        due.page(x, "231591");
        return x;
    }

    private static void outs() {
        WhereverBegun x = six();
        int[] outs = {3, 4, 3, 3, 4, 5};
        for (int p = 0; p < 6; p++) {
            due.is("out(" + p + ")", x.out(p), outs[p]);
        }
        due.is("out(-1)", x.out(-1), -1);
        due.is("out(6)", x.out(6), -1);
        due.is("out(min)", x.out(MIN), -1);
        due.is("out(max)", x.out(MAX), -1);
        int[] streams = {1, 2, 2, 2, 2, 3};
        for (int n = 1; n <= 6; n++) {
            x.begin(n);
            due.is("streams() of " + n, x.streams(), streams[n - 1]);
        }
        due.page(x, "T".repeat(12));
        x.begin(10);
        due.is("out(0): ten on", x.out(0), 10);
        due.is("out(2): just over the end", x.out(2), 2);
        due.is("streams() of ten alone", x.streams(), 10);
        due.page(x, "1".repeat(40));
        due.is("out(0) of forty", x.out(0), 39);
    }

    private static void meetings() {
        WhereverBegun x = six();
        due.is("meet(0, 3)", x.meet(0, 3), 3);
        due.is("meet(3, 0)", x.meet(3, 0), 3);
        due.is("meet(0, 2)", x.meet(0, 2), 2);
        due.is("meet(1, 4)", x.meet(1, 4), 4);
        due.is("meet(0, 1)", x.meet(0, 1), -6);
        due.is("meet(5, 5)", x.meet(5, 5), 5);
        due.is("meet(0, 0)", x.meet(0, 0), 0);
        due.is("meet(0, 6)", x.meet(0, 6), -1);
        due.is("meet(6, 0)", x.meet(6, 0), -1);
        due.is("meet(-1, 0)", x.meet(-1, 0), -1);
        due.is("meet(0, min)", x.meet(0, MIN), -1);
        due.page(x, "1".repeat(40));
        due.is("meet(38, 39)", x.meet(38, 39), 39);
        due.is("meet(5, 39)", x.meet(5, 39), 39);
    }

    private static void passed() {
        WhereverBegun x = six();
        due.is("pass(-1) of one", x.pass(-1), 3);
        due.is("pass(0) of one", x.pass(0), 0);
        due.is("pass(1) of one", x.pass(1), 2);
        due.is("pass(2) of one", x.pass(2), 3);
        due.is("pass(3) of one", x.pass(3), -6);
        due.is("pass(-2)", x.pass(-2), -6);
        due.is("pass(min)", x.pass(MIN), -6);
        due.is("pass(max)", x.pass(MAX), -6);
        x.begin(2);
        due.is("pass(-1) of two that part", x.pass(-1), 0);
        due.is("pass(0) of two that part", x.pass(0), -6);
        due.page(x, "2111");
        x.begin(2);
        due.is("pass(-1)", x.pass(-1), 2);
        due.is("pass(0)", x.pass(0), 2);
        due.is("pass(1)", x.pass(1), 3);
    }

    private static void trees() {
        WhereverBegun x = new WhereverBegun();
        // 0 -> 3, 1 -> 3, 2 -> 3, 3 -> 4, 4 -> 6, 5 -> 6, 6 -> out
        due.page(x, "3211211");
        x.begin(3);
        int[][] want = {{1, 0, 0}, {1, 0, 0}, {1, 0, 0}, {3, 3, 1}, {3, 1, 2}, {0, 0, 0}, {3, 2, 3}};
        for (int p = 0; p < 7; p++) {
            for (int what = 0; what < 3; what++) {
                due.is("tree(" + p + ", " + what + ")", x.tree(p, what), want[p][what]);
            }
        }
        due.is("nowhere()", x.nowhere(), 4);
        x.begin(6);
        due.is("tree(6, 0) of six", x.tree(6, 0), 6);
        due.is("tree(5, 0) of six", x.tree(5, 0), 1);
        due.is("tree(7, 9)", x.tree(7, 9), -1);
        due.is("tree(-1, 0)", x.tree(-1, 0), -1);
        due.is("tree(0, -1)", x.tree(0, -1), -2);
        due.is("tree(0, 3)", x.tree(0, 3), -2);
        due.page(x, "1".repeat(40));
        due.is("tree(39, 2)", x.tree(39, 2), 39);
        due.is("nowhere() of a chain", x.nowhere(), 1);
        due.page(x, "9999");
        due.is("nowhere() of none that lead", x.nowhere(), 4);
    }

    private static void changed() {
        WhereverBegun x = new WhereverBegun();
        due.page(x, "3211211");
        x.begin(3);
        due.is("minds(3, 1): as it is", x.minds(3, 1), 0);
        due.is("minds(3, 2): to 5, and so to 6", x.minds(3, 2), 0);
        due.is("minds(3, 4): out at 3", x.minds(3, 4), 3);
        due.is("minds(3, 10)", x.minds(3, 10), 3);
        due.is("minds(1, 6): out at 1", x.minds(1, 6), 1);
        due.is("minds(5, 9): none comes there", x.minds(5, 9), 0);
        due.is("minds(6, 9): out there anyway", x.minds(6, 9), 0);
        due.is("minds(7, 1)", x.minds(7, 1), -1);
        due.is("minds(0, 0)", x.minds(0, 0), -1);
        due.is("minds(0, 11)", x.minds(0, 11), -1);
        due.is("minds(0, min)", x.minds(0, MIN), -1);
        due.is("one(0)", x.one(0), 3);
        due.is("one(1)", x.one(1), 4);
        due.is("one(2)", x.one(2), 3);
        due.is("one(-1)", x.one(-1), -2);
        due.is("one(3)", x.one(3), -2);
        due.page(x, "9999");
        x.begin(4);
        due.is("one(0): the least place", x.one(0), 0);
        due.is("one(1): the least count", x.one(1), 1);
        due.is("one(2)", x.one(2), 1);
        due.page(x, "5");
        due.is("one(0) of one place", x.one(0), -6);
        due.is("one(1) of one place", x.one(1), -6);
        due.is("one(2) of one place", x.one(2), 0);
        due.is("the page stays", x.place(0, 1), 5);
    }

    private static void bestCourts() {
        WhereverBegun x = new WhereverBegun();
        // by 1 the king falls in with 1, which is out there; by 2 with 2 and 3
        due.page(x, "K9115");
        x.begin(4);
        due.is("best(0)", x.best(0), 2);
        due.is("best(1)", x.best(1), 3);
        due.is("court stays", x.told(3), 5);
        due.is("place(0, 1) stays", x.place(0, 1), 5);
        due.page(x, "J9Q11");
        x.begin(3);
        // 1: 0 -> 1 out, 2 -> 4; 2: 0 -> 2 -> 4, 1 out: both two, the least is 1
        due.is("best(0) of several", x.best(0), 1);
        due.is("best(1) of several", x.best(1), 2);
        due.page(x, "9J9919");
        x.begin(2);
        due.is("best(0) of none that meet", x.best(0), 1);
        due.is("best(1) of none that meet", x.best(1), 1);
        due.page(x, "11119");
        x.begin(4);
        due.is("best(0) without courts", x.best(0), 1);
        due.is("best(1) without courts", x.best(1), 4);
        due.is("best(-1)", x.best(-1), -2);
        due.is("best(2)", x.best(2), -2);
        // 0 -> 5 -> 11 -> 12, and by ten 1 -> 11 and 2 -> 12: by no less do all three
        due.page(x, "5KK5267583K1K");
        x.begin(3);
        due.is("best(0): ten", x.best(0), 10);
        due.is("best(1): ten", x.best(1), 3);
    }

    private static void notWhole() {
        for (String text : new String[] {"1*1", "1?1", "*", "?"}) {
            WhereverBegun x = new WhereverBegun();
            due.page(x, text);
            due.is("out(0)", x.out(0), -3);
            due.is("out(9)", x.out(9), -1);
            due.is("streams()", x.streams(), -3);
            due.is("meet(0, 0)", x.meet(0, 0), -3);
            due.is("meet(0, 9)", x.meet(0, 9), -1);
            due.is("pass(-1)", x.pass(-1), -3);
            due.is("pass(-2)", x.pass(-2), -3);
            due.is("pass(9)", x.pass(9), -3);
            due.is("tree(0, 0)", x.tree(0, 0), -3);
            due.is("tree(0, 3)", x.tree(0, 3), -2);
            due.is("nowhere()", x.nowhere(), -3);
            due.is("minds(0, 1)", x.minds(0, 1), -3);
            due.is("minds(0, 11)", x.minds(0, 11), -1);
            due.is("one(0)", x.one(0), -3);
            due.is("one(3)", x.one(3), -2);
            due.is("best(0)", x.best(0), -3);
            due.is("best(2)", x.best(2), -2);
            due.is("wrong(0, 0)", x.wrong(0, 0), -3);
            due.is("wrong(0, 9)", x.wrong(0, 9), -1);
        }
    }
}
