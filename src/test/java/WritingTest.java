/** Promises 22 to 27. */
public final class WritingTest {
    private static final Due due = new Due();
    private static final long LOST = -1000000000000000000L;

    public static void main(String[] args) {
        wishes();
        noFreePlaces();
        unreached();
        mostWays();
        soonest();
        writeRefused();
        sights();
        odds();
        drawnRefused();
        due.end();
    }

    private static void written(WhereverBegun x, int wish, int place, int ways, int... first) {
        due.is("write(" + wish + ", " + place + ", -1)", x.write(wish, place, -1), ways);
        for (int i = 0; i < first.length; i++) {
            due.is("write(" + wish + ", " + place + ", " + i + ")", x.write(wish, place, i), first[i]);
        }
        int past = first.length;
        due.is("write(" + wish + ", " + place + ", " + past + ")", x.write(wish, place, past), -6);
        due.is("write(" + wish + ", " + place + ", -2)", x.write(wish, place, -2), -6);
    }

    private static void soonestIs(WhereverBegun x, int place, int... counts) {
        due.is("soonest(-1)", x.soonest(-1), place);
        for (int i = 0; i < counts.length; i++) {
            due.is("soonest(" + i + ")", x.soonest(i), counts[i]);
        }
        due.is("soonest(" + counts.length + ")", x.soonest(counts.length), -6);
        due.is("soonest(-2)", x.soonest(-2), -6);
    }

    private static void wishes() {
        WhereverBegun x = new WhereverBegun();
        due.page(x, "*191");
        x.begin(3);
        // 1 -> 2, 2 out, 0: 1 -> 1, 2 -> 2, 3 -> 3, else out
        x.allow(2046);
        written(x, 0, 0, 2, 1);
        written(x, 1, 0, 0);
        written(x, 2, 0, 8, 3);
        written(x, 3, 2, 2, 1);
        written(x, 3, 1, 0);
        written(x, 3, 0, 0);
        x.begin(1);
        written(x, 0, 99, 10, 1);
        written(x, 1, -99, 10, 1);
        written(x, 2, 0, 0);
        written(x, 3, 0, 10, 1);
        written(x, 3, 3, 1, 3);
        written(x, 3, 1, 1, 1);
        x.allow(8);
        written(x, 3, 1, 0);
        written(x, 3, 3, 1, 3);
        due.page(x, "*9*9");
        x.begin(3);
        x.allow(1024 + 4);
        // 0: 2 -> 2, 10 out; 2 out either way: three streams by 10 alone
        written(x, 1, 0, 2, 10, 2);
        written(x, 2, 0, 2, 2, 2);
        written(x, 0, 0, 0);
    }

    private static void noFreePlaces() {
        WhereverBegun x = new WhereverBegun();
        written(x, 0, 0, 1);
        written(x, 1, 0, 1);
        written(x, 2, 0, 0);
        written(x, 3, 0, 1);
        soonestIs(x, 0);
        due.page(x, "99");
        x.begin(2);
        written(x, 0, 0, 0);
        written(x, 1, 0, 1);
        written(x, 2, 0, 1);
        written(x, 3, 1, 0);
        soonestIs(x, -6);
    }

    private static void unreached() {
        WhereverBegun x = new WhereverBegun();
        due.page(x, "2*1*");
        x.allow(8 + 16);
        // 0 -> 2 -> 3: none comes to 1
        written(x, 0, 0, 4, 3, 3);
        written(x, 3, 3, 4, 3, 3);
        written(x, 3, 1, 0);
        soonestIs(x, 0, 3, 3);
    }

    private static void mostWays() {
        WhereverBegun x = new WhereverBegun();
        due.page(x, "****" + "1".repeat(36));
        x.begin(10);
        x.allow(2046);
        written(x, 0, 0, 10000, 1, 1, 1, 1);
        written(x, 2, 0, 0);
        written(x, 3, 39, 10000, 1, 1, 1, 1);
        // none of the four may lead beyond 9
        written(x, 3, 9, 9 * 8 * 7 * 6, 1, 1, 1, 1);
        soonestIs(x, 9, 1, 1, 1, 1);
    }

    private static void soonest() {
        WhereverBegun x = new WhereverBegun();
        due.page(x, "*3111");
        x.begin(2);
        // by 1 they meet at 1, by 2, 3 and 4 at 4, else not
        soonestIs(x, 1, 1);
        x.allow(1022 - 2);
        soonestIs(x, 4, 2);
        x.allow(8 + 16);
        soonestIs(x, 4, 3);
        x.allow(32);
        soonestIs(x, -6);
        due.is("soonest(0) of none", x.soonest(0), -6);
        due.page(x, "4*1*11");
        x.begin(2);
        x.allow(2 + 4 + 8 + 16);
        // 0 -> 4; the second at 1 -> 4 by 3, and the first count there that does is taken
        soonestIs(x, 4, 1, 1);
        x.allow(4 + 8);
        soonestIs(x, 4, 3, 2);
        due.page(x, "*?");
        due.is("soonest(-1) with drawn ones", x.soonest(-1), -3);
        due.is("soonest(-2) with drawn ones", x.soonest(-2), -3);
    }

    private static void writeRefused() {
        WhereverBegun x = new WhereverBegun();
        due.page(x, "*1?");
        due.is("write(3, 3, -1)", x.write(3, 3, -1), -1);
        due.is("write(3, -1, -1)", x.write(3, -1, -1), -1);
        due.is("write(4, 3, -1)", x.write(4, 3, -1), -2);
        due.is("write(-1, 3, -1)", x.write(-1, 3, -1), -2);
        due.is("write(0, 3, -1)", x.write(0, 3, -1), -3);
        due.is("write(3, 2, -1)", x.write(3, 2, -1), -3);
        due.is("write(0, 0, 99)", x.write(0, 0, 99), -3);
    }

    private static void sights() {
        WhereverBegun x = new WhereverBegun();
        due.page(x, "?1?9");
        due.is("fits() without sights", x.fits(), 9);
        due.is("seen(4, 0)", x.seen(4, 0), -1);
        due.is("seen(0, 4)", x.seen(0, 4), -1);
        due.is("seen(-1, 0)", x.seen(-1, 0), -1);
        due.is("seen(1, 3)", x.seen(1, 3), 1);
        // 1 -> 2, which goes to 3 by 1 alone
        due.is("fits()", x.fits(), 3);
        due.is("seen(0, 3)", x.seen(0, 3), 2);
        due.is("fits()", x.fits(), 3);
        due.is("seen(0, 2)", x.seen(0, 2), 3);
        due.is("fits() of two that can not be", x.fits(), 0);
        due.is("forget()", x.forget(), 3);
        due.is("forget()", x.forget(), 0);
        due.is("seen(0, 2)", x.seen(0, 2), 1);
        due.is("fits() by 1, 2 and then out", x.fits(), 4);
        due.is("seen(3, 2): never", x.seen(3, 2), 2);
        due.is("fits()", x.fits(), 0);
        for (int n = 3; n <= 6; n++) {
            due.is("seen", x.seen(0, 0), n);
        }
        due.is("seen: full", x.seen(0, 0), -4);
        due.is("seen: unknown first", x.seen(9, 0), -1);
        due.is("told(7)", x.told(7), 6);
        due.page(x, "*?");
        due.is("fits() with free ones", x.fits(), -3);
        due.is("seen(0, 1) with free ones", x.seen(0, 1), 1);
        due.page(x, "21");
        due.is("fits() of a whole page", x.fits(), 1);
        x.seen(0, 0);
        due.is("fits() that holds", x.fits(), 1);
        x.seen(0, 1);
        due.is("fits() that does not", x.fits(), 0);
    }

    private static void odds(WhereverBegun x, int k, int count, long upper, long lower) {
        String call = "drawn(" + k + ", " + count;
        due.fraction(call, x.drawn(k, count, 0), x.drawn(k, count, 1), upper, lower);
    }

    private static void odds() {
        WhereverBegun x = new WhereverBegun();
        due.page(x, "?1?9");
        odds(x, 0, 1, 1, 3);
        odds(x, 1, 10, 0, 1);
        x.weight(1, 4);
        odds(x, 0, 1, 2, 3);
        odds(x, 0, 2, 1, 6);
        x.seen(0, 3);
        // 0 by 3 (1), or by 1 or 2 (5) and then 2 by 1 (4 of 6): 6 and 20 of 26
        due.is("fits()", x.fits(), 5);
        odds(x, 0, 3, 3, 13);
        odds(x, 0, 1, 8, 13);
        odds(x, 0, 2, 2, 13);
        odds(x, 1, 1, 12, 13);
        odds(x, 1, 2, 1, 26);
        odds(x, 1, 4, 0, 1);
        x.weight(1, 0);
        // by 3 alone: 2 can not go to 3 any more
        due.is("fits()", x.fits(), 2);
        odds(x, 0, 3, 1, 1);
        odds(x, 0, 2, 0, 1);
        odds(x, 1, 3, 1, 2);
    }

    private static void drawnRefused() {
        WhereverBegun x = new WhereverBegun();
        due.page(x, "?*?");
        due.is("drawn(2, 1, 9)", x.drawn(2, 1, 9), LOST - 1);
        due.is("drawn(-1, 1, 0)", x.drawn(-1, 1, 0), LOST - 1);
        due.is("drawn(0, 0, 0)", x.drawn(0, 0, 0), LOST - 1);
        due.is("drawn(0, 11, 0)", x.drawn(0, 11, 0), LOST - 1);
        due.is("drawn(0, 1, 2)", x.drawn(0, 1, 2), LOST - 2);
        due.is("drawn(0, 1, -1)", x.drawn(0, 1, -1), LOST - 2);
        due.is("drawn(0, 1, 0)", x.drawn(0, 1, 0), LOST - 3);
        due.page(x, "?2");
        x.seen(1, 0);
        due.is("drawn(0, 1, 0): none fits", x.drawn(0, 1, 0), LOST - 3);
        due.is("drawn(0, 4, 1): none fits", x.drawn(0, 4, 1), LOST - 3);
        x.forget();
        due.is("drawn(0, 4, 1)", x.drawn(0, 4, 1), 1);
    }
}
