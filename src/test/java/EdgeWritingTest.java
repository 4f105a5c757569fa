/** The boundaries that the document's section 4 and promises 22 to 27 name, sentence by sentence. */
public final class EdgeWritingTest implements Answers {
    private static final Edge edge = new Edge();
    private static final String[] NO_PLACES_OF_THREE = {"-1", "3", "40", "MIN", "MAX"};
    private static final String[] FAR = {"-2", "-3", "4", "40", "MIN", "MAX"};

    public static void main(String[] args) {
        allowed();
        wishes();
        firstWay();
        writeNone();
        writeRefused();
        soonest();
        soonestNone();
        sights();
        seenRefused();
        forget();
        fits();
        drawn();
        drawnRefused();
        edge.end();
    }

    /** The ways of a wish, and the counts of the first. */
    private static void written(String wish, int ways, int... first) {
        edge.asked("write(" + wish + ", -1)", ways);
        for (int i = 0; i < first.length; i++) {
            edge.asked("write(" + wish + ", " + i + ")", first[i]);
        }
        edge.asked("write(" + wish + ", " + first.length + ")", NONE);
    }

    private static void soonestIs(int place, int... counts) {
        edge.asked("soonest(-1)", place);
        for (int i = 0; i < counts.length; i++) {
            edge.asked("soonest(" + i + ")", counts[i]);
        }
        edge.asked("soonest(" + counts.length + ")", NONE);
    }

    private static void allowed() {
        edge.sentence("ALLOWED: COUNTS that a free PLACE may have");
        String tail = "T".repeat(10);
        // the greatest, 10, is not allowed at first
        edge.page("*" + tail, 1);
        written("3, 9", 1, 9);
        written("3, 10", 0);
        written("3, 0", 9, 1);
        edge.page("*" + tail, 1, "allow(2046)");
        written("3, 10", 1, 10);
        written("3, 0", 10, 1);
        edge.page("*" + tail, 1, "allow(1024)");
        written("3, 10", 1, 10);
        written("3, 0", 1, 10);
        edge.page("*" + tail, 1, "allow(2)");
        written("3, 1", 1, 1);
        written("3, 2", 0);
    }

    private static void wishes() {
        edge.sentence("0 all BEGINNINGS come OUT at one PLACE, 1 no two BEGINNINGS MEET");
        edge.page("*9", 2, "allow(2046)");
        written("0, 0", 1, 1);
        written("1, 0", 9, 2);
        edge.page("*9", 1, "allow(2046)");
        written("0, 0", 10, 1);
        written("1, 0", 10, 1);
        edge.page("*" + "T".repeat(9), 10, "allow(2046)");
        // from 0 one comes to 1 to 9 by 1 to 9: by 10 alone no two meet
        written("1, 0", 1, 10);
        written("0, 0", 0);
        edge.sentence("2 there are just two STREAMS, 3 all PASS a PLACE.");
        edge.page("*9", 1);
        written("2, 0", 0);
        edge.page("*9", 2);
        written("2, 0", 8, 2);
        edge.page("*99", 3);
        written("2, 0", 2, 1);
        written("1, 0", 7, 3);
        edge.page("*19", 2);
        // 1 -> 2; the beginning itself is passed, too
        written("3, 0", 0);
        written("3, 1", 1, 1);
        written("3, 2", 2, 1);
        edge.page("*19", 1);
        written("3, 0", 9, 1);
    }

    private static void firstWay() {
        edge.sentence("In how many ways; the first by COUNTS, the first free PLACE first");
        // to 5: by 2 and then 3, or by 5 at once; the lesser second count stands in a later way
        edge.page("*4*999", 2, "allow(44)");
        written("3, 5", 4, 2, 3);
        edge.page("****" + "1".repeat(36), 10, "allow(2046)");
        written("0, 0", 10000, 1, 1, 1, 1);
        written("2, 0", 0);
        edge.page("****", 4, "allow(1024)");
        written("1, 0", 1, 10, 10, 10, 10);
        written("0, 0", 0);
        // free places that none comes to count, too
        edge.page("9**", 1, "allow(12)");
        written("0, 0", 4, 2, 2);
        // without free places there is one way, or none
        edge.given();
        written("0, 0", 1);
        written("1, 0", 1);
        written("2, 0", 0);
        written("3, 0", 1);
        edge.page("99", 2);
        written("0, 0", 0);
        written("2, 0", 1);
    }

    private static void writeNone() {
        edge.sentence("the COUNT of the i-th free PLACE in the first way; NONE (i below -1, too).");
        edge.page("****", 1, "allow(24)");
        edge.asked("write(0, 0, -1)", 16);
        edge.asked("write(0, 0, 0)", 3);
        edge.asked("write(0, 0, 3)", 3);
        for (String i : FAR) {
            edge.asked("write(0, 0, " + i + ")", NONE);
            edge.asked("write(3, 0, " + i + ")", NONE);
        }
        // no way at all
        edge.asked("write(2, 0, -1)", 0);
        edge.asked("write(2, 0, 0)", NONE);
        edge.asked("write(2, 0, 3)", NONE);
        edge.asked("write(2, 0, -2)", NONE);
    }

    private static void writeRefused() {
        edge.sentence("UNKNOWN: the PLACE (of WISH 3 alone); OUTSIDE: the WISH; STATE: there are drawn PLACES.");
        edge.page("*19", 1);
        written("3, 2", 2, 1);
        writeUnknownAndOutside();
        for (String place : NO_PLACES_OF_THREE) {
            edge.asked("write(0, " + place + ", -1)", 9);
            edge.asked("write(1, " + place + ", -1)", 9);
            edge.asked("write(2, " + place + ", -1)", 0);
        }
        String[] drawn = {"*1?", "91?", "?**"};
        for (String text : drawn) {
            edge.page(text, 1);
            writeUnknownAndOutside();
            for (int wish = 0; wish <= 3; wish++) {
                edge.refused("write(" + wish + ", 2, -1)", STATE);
                edge.refused("write(" + wish + ", 0, -2)", STATE);
                edge.refused("write(" + wish + ", 0, 9)", STATE);
            }
            edge.refused("write(2, 3, -1)", STATE);
        }
    }

    private static void writeUnknownAndOutside() {
        for (String place : NO_PLACES_OF_THREE) {
            edge.refused("write(3, " + place + ", -1)", UNKNOWN);
            edge.refused("write(3, " + place + ", -2)", UNKNOWN);
            edge.refused("write(4, " + place + ", -1)", OUTSIDE);
            edge.refused("write(-1, " + place + ", 0)", OUTSIDE);
        }
        String[] wishes = {"-1", "4", "MIN", "MAX"};
        for (String wish : wishes) {
            edge.refused("write(" + wish + ", 0, -1)", OUTSIDE);
            edge.refused("write(" + wish + ", 2, -2)", OUTSIDE);
        }
    }

    private static void soonest() {
        edge.sentence("by WISH 0 the way by which the first PLACE of PASS is least, the first of several.");
        // by 2 they meet at 4, by 3 at 3: the first way is not the soonest
        edge.page("*2219", 2, "allow(12)");
        written("0, 0", 2, 2);
        soonestIs(3, 3);
        edge.page("*2219", 2);
        soonestIs(1, 1);
        // several: by 2 and by 4 at 4
        edge.page("*2219", 2, "allow(20)");
        soonestIs(4, 2);
        // a free place that none comes to: the first of several has the least count there
        edge.page("*2*19*", 2, "allow(24)");
        soonestIs(3, 3, 3, 3);
        edge.page("****" + "1".repeat(36), 10, "allow(2046)");
        soonestIs(9, 1, 1, 1, 1);
        edge.page("****" + "1".repeat(36), 1);
        soonestIs(0, 1, 1, 1, 1);
    }

    private static void soonestNone() {
        edge.sentence("SOONEST: the first PLACE of PASS (i = -1), the COUNT of the i-th free PLACE; NONE (i below -1, too).");
        edge.page("****", 1, "allow(24)");
        soonestIs(0, 3, 3, 3, 3);
        for (String i : FAR) {
            edge.asked("soonest(" + i + ")", NONE);
        }
        // no way
        edge.page("*9", 2, "allow(4)");
        edge.asked("soonest(-1)", NONE);
        edge.asked("soonest(0)", NONE);
        edge.asked("soonest(-2)", NONE);
        // no free place
        edge.given();
        edge.asked("soonest(-1)", 0);
        edge.asked("soonest(0)", NONE);
        edge.page("99", 2);
        edge.asked("soonest(-1)", NONE);
        edge.asked("soonest(0)", NONE);
        // drawn places
        String[] drawn = {"*?", "9?", "?"};
        String[] some = {"-1", "0", "-2", "9", "MIN", "MAX"};
        for (String text : drawn) {
            edge.page(text, 1);
            for (String i : some) {
                edge.refused("soonest(" + i + ")", STATE);
            }
        }
    }

    private static void sights() {
        edge.sentence("SEEN: SIGHTS, 6 at most: who began at a PLACE came OUT at a PLACE.");
        edge.page("?1?9", 1, "seen(0, 3)", "seen(1, 3)", "seen(2, 3)", "seen(3, 3)");
        edge.taken("seen(0, 3)", 5, "seen(0, 3) = 6", "seen(0, 3) = -4", "told(7) = 6", "fits() = 3");
        // the sixth counts as the first does
        edge.page("?1?9", 1, "seen(0, 3)", "seen(1, 3)", "seen(2, 3)", "seen(3, 3)", "seen(0, 3)");
        edge.taken("seen(3, 0)", 6, "fits() = 0");
        // one may have begun behind the beginnings, and at the last place
        edge.page("?1?9", 1);
        edge.taken("seen(3, 3)", 1, "fits() = 9");
        edge.taken("seen(2, 3)", 1, "fits() = 3");
        // a sight is taken whatever the page is, and if it can not be
        edge.taken("seen(3, 0)", 1, "fits() = 0");
        edge.page("**", 1);
        edge.taken("seen(0, 1)", 1, "told(7) = 1");
    }

    private static void seenRefused() {
        edge.sentence("A SIGHT more: how many. UNKNOWN: PLACES; FULL.");
        edge.page("?1?", 1, "seen(0, 2)");
        edge.taken("seen(2, 0)", 2, "told(7) = 2");
        edge.taken("seen(0, 0)", 2, "told(7) = 2");
        edge.taken("seen(2, 2)", 2, "told(7) = 2");
        seenUnknown();
        edge.page("?1?", 1, "seen(0, 2)", "seen(0, 2)", "seen(0, 2)", "seen(0, 2)", "seen(0, 2)", "seen(1, 2)");
        edge.refused("seen(0, 2)", FULL);
        edge.refused("seen(2, 0)", FULL);
        seenUnknown();
        edge.taken("forget()", 6, "seen(2, 2) = 1", "told(7) = 1");
    }

    private static void seenUnknown() {
        for (String place : NO_PLACES_OF_THREE) {
            edge.refused("seen(" + place + ", 0)", UNKNOWN);
            edge.refused("seen(2, " + place + ")", UNKNOWN);
            edge.refused("seen(" + place + ", " + place + ")", UNKNOWN);
        }
    }

    private static void forget() {
        edge.sentence("SIGHTS go: how many there were.");
        edge.asked("forget()", 0);
        edge.page("?9", 1, "seen(1, 0)");
        edge.taken("forget()", 1, "told(7) = 0", "forget() = 0", "fits() = 3");
        edge.page("?9", 1, "seen(1, 0)", "seen(1, 0)", "seen(1, 0)", "seen(1, 0)", "seen(1, 0)", "seen(1, 0)");
        edge.taken("forget()", 6, "told(7) = 0", "forget() = 0", "fits() = 3", "seen(0, 1) = 1", "fits() = 1");
    }

    private static void fits() {
        edge.sentence("FITS: ways for drawn PLACES (COUNTS with a WEIGHT above 0; of a PAGE without free ones)");
        edge.page("?9", 1);
        edge.asked("fits()", 3);
        edge.page("?9", 1, "weight(1, 0)");
        edge.asked("fits()", 2);
        // ways are counted, whatever their weight
        edge.page("?9", 1, "weight(1, 9)");
        edge.asked("fits()", 3);
        edge.page("?9", 1, "weight(10, 1)");
        edge.asked("fits()", 4);
        edge.page("?????", 1, "weight(4, 1)", "weight(5, 1)", "weight(6, 1)", "weight(7, 1)", "weight(8, 1)",
            "weight(9, 1)", "weight(10, 1)");
        edge.asked("fits()", 100000);
        edge.page("?????", 1, "weight(2, 0)", "weight(3, 0)");
        edge.asked("fits()", 1);
        // a whole page fits in one way, or in none
        edge.page("19", 1);
        edge.asked("fits()", 1);
        edge.page("19", 1, "seen(0, 1)");
        edge.asked("fits()", 1);
        edge.page("19", 1, "seen(0, 0)");
        edge.asked("fits()", 0);
        // the last of ten counts comes to the last place
        String ten = "?" + "T".repeat(10);
        edge.page(ten, 1, "weight(10, 1)", "seen(0, 10)");
        edge.asked("fits()", 1);
        edge.page(ten, 1, "weight(9, 1)", "seen(0, 10)");
        edge.asked("fits()", 0);

        edge.sentence("FITS. STATE: there are free PLACES.");
        String[] free = {"*", "?*", "9*", "?????****"};
        for (String text : free) {
            edge.page(text, 1, "seen(0, 0)");
            edge.refused("fits()", STATE);
        }
    }

    private static void drawn() {
        edge.sentence("by WEIGHTS the odds of a COUNT at a drawn PLACE, of these ways.");
        edge.page("?1?9", 1, "weight(1, 4)");
        edge.fraction("drawn(0, 1", 2, 3);
        edge.fraction("drawn(1, 3", 1, 6);
        edge.fraction("drawn(0, 4", 0, 1);
        edge.fraction("drawn(0, 10", 0, 1);
        edge.page("?1?9", 1, "weight(1, 4)", "seen(0, 3)");
        edge.fraction("drawn(0, 3", 3, 13);
        edge.fraction("drawn(1, 1", 12, 13);
        // one way alone
        edge.page("?1?9", 1, "weight(1, 4)", "seen(0, 3)", "seen(2, 2)", "weight(2, 0)");
        edge.asked("fits()", 1);
        edge.fraction("drawn(0, 3", 1, 1);
        edge.fraction("drawn(0, 1", 0, 1);
        edge.fraction("drawn(1, 3", 1, 1);
        edge.sentence("Odds that the k-th drawn PLACE has a COUNT.");
        edge.page("?????", 1, "weight(10, 9)");
        edge.fraction("drawn(0, 10", 3, 4);
        edge.fraction("drawn(4, 10", 3, 4);
        edge.fraction("drawn(4, 1", 1, 12);
        edge.refused("drawn(5, 1, 0)", LOST_UNKNOWN);
        edge.refused("drawn(-1, 1, 0)", LOST_UNKNOWN);
        // the places are told apart: only the last one must come to the end
        edge.page("1?9?9", 1, "seen(3, 4)");
        edge.fraction("drawn(0, 1", 1, 3);
        edge.fraction("drawn(1, 1", 1, 1);
    }

    private static void drawnRefused() {
        edge.sentence("UNKNOWN: the PLACE, the COUNT; OUTSIDE; STATE: there are free PLACES, or no way FITS.");
        edge.page("?9?", 1, "seen(0, 2)");
        edge.fraction("drawn(0, 2", 1, 1);
        edge.fraction("drawn(1, 3", 1, 3);
        drawnUnknownAndOutside();
        // free places
        edge.page("?*?", 1);
        edge.refused("drawn(0, 1, 0)", LOST_STATE);
        edge.refused("drawn(1, 10, 1)", LOST_STATE);
        drawnUnknownAndOutside();
        // no way fits
        edge.page("?9?", 1, "seen(1, 0)");
        edge.asked("fits()", 0);
        edge.refused("drawn(0, 1, 0)", LOST_STATE);
        edge.refused("drawn(1, 10, 1)", LOST_STATE);
        drawnUnknownAndOutside();
        edge.taken("forget()", 1, "drawn(0, 1, 1) = 3");
        // no drawn place at all
        edge.page("191", 1);
        edge.refused("drawn(0, 1, 0)", LOST_UNKNOWN);
        edge.refused("drawn(0, 1, 2)", LOST_UNKNOWN);
        edge.page("***", 1);
        edge.refused("drawn(0, 1, 0)", LOST_UNKNOWN);
    }

    private static void drawnUnknownAndOutside() {
        String[] no = {"-1", "2", "3", "MIN", "MAX"};
        for (String k : no) {
            edge.refused("drawn(" + k + ", 1, 0)", LOST_UNKNOWN);
            edge.refused("drawn(" + k + ", 11, 2)", LOST_UNKNOWN);
            edge.refused("drawn(" + k + ", 1, -1)", LOST_UNKNOWN);
        }
        String[] counts = {"0", "11", "-1", "MIN", "MAX"};
        for (String count : counts) {
            edge.refused("drawn(0, " + count + ", 0)", LOST_UNKNOWN);
            edge.refused("drawn(1, " + count + ", 2)", LOST_UNKNOWN);
        }
        String[] parts = {"-1", "2", "MIN", "MAX"};
        for (String part : parts) {
            edge.refused("drawn(0, 1, " + part + ")", LOST_OUTSIDE);
            edge.refused("drawn(1, 10, " + part + ")", LOST_OUTSIDE);
        }
    }
}
