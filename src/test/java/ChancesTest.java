/** Promises 20 and 21. */
public final class ChancesTest {
    private static final Due due = new Due();
    private static final long LOST = -1000000000000000000L;

    public static void main(String[] args) {
        wholePages();
        drawnPlaces();
        farApart();
        mostWays();
        refused();
        due.end();
    }

    private static void likely(WhereverBegun x, int a, int b, long upper, long lower) {
        due.fraction("likely(" + a + ", " + b, x.likely(a, b, 0), x.likely(a, b, 1), upper, lower);
    }

    private static void all(WhereverBegun x, long upper, long lower) {
        due.fraction("all(", x.all(0), x.all(1), upper, lower);
    }

    private static void wholePages() {
        WhereverBegun x = new WhereverBegun();
        all(x, 1, 1);
        due.page(x, "2191");
        x.begin(2);
        likely(x, 0, 1, 1, 1);
        likely(x, 2, 3, 0, 1);
        likely(x, 3, 3, 1, 1);
        all(x, 1, 1);
        x.begin(4);
        all(x, 0, 1);
    }

    private static void drawnPlaces() {
        WhereverBegun x = new WhereverBegun();
        due.page(x, "?19");
        x.begin(2);
        // 1 and 2 lead to 2 at last, 3 out at once
        likely(x, 0, 1, 2, 3);
        likely(x, 1, 0, 2, 3);
        likely(x, 0, 0, 1, 1);
        all(x, 2, 3);
        x.weight(3, 4);
        all(x, 1, 3);
        x.weight(1, 0);
        all(x, 1, 5);
        x.weight(2, 0);
        all(x, 0, 1);
        x.begin(1);
        all(x, 1, 1);
        x.weight(10, 5);
        x.weight(3, 0);
        likely(x, 0, 2, 0, 1);
        // a drawn place behind that none comes to changes nothing
        due.page(x, "2?1");
        x.weight(1, 1);
        likely(x, 0, 2, 1, 1);
        likely(x, 1, 2, 1, 6);
    }

    /** Beginnings further off than the greatest count. */
    private static void farApart() {
        WhereverBegun x = new WhereverBegun();
        due.page(x, "?" + "1".repeat(39));
        x.weight(10, 9);
        likely(x, 0, 39, 1, 1);
        due.page(x, "T".repeat(39) + "?");
        likely(x, 9, 39, 1, 1);
        likely(x, 8, 39, 0, 1);
        due.page(x, "1".repeat(29) + "T" + "9".repeat(9) + "?");
        likely(x, 0, 39, 1, 1);
        due.page(x, "1".repeat(29) + "?" + "9".repeat(10));
        // by 1 (weight 1) to 30 and by 10 (weight 9) to 39, of 12
        likely(x, 0, 39, 5, 6);
        likely(x, 0, 30, 5, 6);
        likely(x, 0, 33, 0, 1);
        likely(x, 12, 25, 1, 1);
    }

    private static void mostWays() {
        WhereverBegun x = new WhereverBegun();
        due.page(x, "?????" + "9".repeat(35));
        for (int c = 1; c <= 10; c++) {
            x.weight(c, 1);
        }
        x.weight(10, 3);
        x.begin(5);
        Oracle o = new Oracle();
        for (char sign : ("?????" + "9".repeat(35)).toCharArray()) {
            o.say(sign);
        }
        o.page();
        for (int c = 1; c <= 10; c++) {
            o.weight(c, 1);
        }
        o.weight(10, 3);
        o.begin(5);
        all(x, o.all(0), o.all(1));
        likely(x, 0, 4, o.likely(0, 4, 0), o.likely(0, 4, 1));
        x.begin(10);
        o.begin(10);
        all(x, o.all(0), o.all(1));
        due.is("fits() of most ways", x.fits(), 100000);
    }

    private static void refused() {
        WhereverBegun x = new WhereverBegun();
        due.page(x, "1*?");
        due.is("likely(0, 3, 2)", x.likely(0, 3, 2), LOST - 1);
        due.is("likely(-1, 0, 0)", x.likely(-1, 0, 0), LOST - 1);
        due.is("likely(0, 1, 2)", x.likely(0, 1, 2), LOST - 2);
        due.is("likely(0, 1, -1)", x.likely(0, 1, -1), LOST - 2);
        due.is("likely(0, 1, 0)", x.likely(0, 1, 0), LOST - 3);
        due.is("likely(0, 0, 1)", x.likely(0, 0, 1), LOST - 3);
        due.is("all(-1)", x.all(-1), LOST - 2);
        due.is("all(2)", x.all(2), LOST - 2);
        due.is("all(0)", x.all(0), LOST - 3);
        due.is("all(1)", x.all(1), LOST - 3);
    }
}
