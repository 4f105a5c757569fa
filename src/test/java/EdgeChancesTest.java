/** The boundaries that the document's section 3, promises 20 and 21, and fractions name. */
public final class EdgeChancesTest implements Answers {
    private static final Edge edge = new Edge();
    private static final String[] NO_PLACES_OF_THREE = {"-1", "3", "40", "MIN", "MAX"};
    private static final String[] NO_PARTS = {"-1", "2", "MIN", "MAX"};

    public static void main(String[] args) {
        fractions();
        meetings();
        all();
        likelyRefused();
        allRefused();
        edge.end();
    }

    private static void fractions() {
        edge.sentence("Fractions are told in lowest terms by part: 0 the upper, 1 the lower number");
        // 0 comes to 1 by 1 alone: 4 of 6, and so 2 of 3
        edge.page("?9", 2, "weight(1, 4)");
        edge.fraction("likely(0, 1", 2, 3);
        edge.fraction("all(", 2, 3);
        edge.fraction("drawn(0, 1", 2, 3);
        // never: 0 of 1, and always: 1 of 1
        edge.page("?9", 2, "weight(4, 1)", "weight(1, 0)");
        edge.fraction("likely(0, 1", 0, 1);
        edge.fraction("all(", 0, 1);
        edge.fraction("drawn(0, 1", 0, 1);
        edge.page("?9", 2, "weight(2, 0)", "weight(3, 0)");
        edge.fraction("likely(0, 1", 1, 1);
        edge.fraction("all(", 1, 1);
        edge.fraction("drawn(0, 1", 1, 1);
        edge.fraction("drawn(0, 2", 0, 1);
        // five drawn places and twelve by all weights: nothing to shorten, the greatest lower number
        edge.page("?????9", 6, "weight(2, 0)", "weight(3, 0)", "weight(9, 2)", "weight(10, 9)");
        edge.fraction("likely(0, 5", 1, 248832);
        edge.fraction("likely(4, 5", 1, 12);
        edge.fraction("all(", 1, 248832);

        edge.sentence("refused with LOST and the refusal.");
        edge.page("?9*", 2);
        edge.refused("likely(3, 0, 0)", LOST_UNKNOWN);
        edge.refused("likely(0, 0, 2)", LOST_OUTSIDE);
        edge.refused("likely(0, 0, 0)", LOST_STATE);
        edge.refused("all(2)", LOST_OUTSIDE);
        edge.refused("all(0)", LOST_STATE);
        edge.refused("drawn(1, 1, 0)", LOST_UNKNOWN);
        edge.refused("drawn(0, 1, 2)", LOST_OUTSIDE);
        edge.refused("drawn(0, 1, 0)", LOST_STATE);
    }

    private static void meetings() {
        edge.sentence("LIKELY: that two PLACES MEET.");
        // one and the same is itself where they meet
        edge.page("??9", 1);
        edge.fraction("likely(0, 0", 1, 1);
        edge.fraction("likely(2, 2", 1, 1);
        edge.fraction("likely(1, 2", 1, 3);
        edge.fraction("likely(2, 1", 1, 3);
        // 0 to 1 (1 of 3) and so on (1 of 3), or to 2 at once (1 of 3)
        edge.fraction("likely(0, 2", 4, 9);
        // a whole page: it is so or not
        edge.page("199", 1);
        edge.fraction("likely(0, 1", 1, 1);
        edge.fraction("likely(0, 2", 0, 1);
        edge.given();
        edge.fraction("likely(0, 0", 1, 1);
        // ten is the most: from 29 one comes to the last of forty, from 28 not
        String before = "1".repeat(28);
        edge.page(before + "9?" + "T".repeat(10), 1, "weight(10, 1)");
        edge.fraction("likely(29, 39", 1, 4);
        edge.page(before + "?9" + "T".repeat(10), 1, "weight(10, 1)");
        edge.fraction("likely(28, 39", 0, 1);
        edge.fraction("likely(28, 38", 1, 2);
        edge.sentence("a drawn PLACE has each COUNT with its WEIGHT by all.");
        edge.page("?9", 1, "weight(1, 9)", "weight(2, 2)");
        edge.fraction("likely(0, 1", 3, 4);
        edge.page("?" + "T".repeat(10), 1, "weight(10, 9)");
        edge.fraction("likely(0, 10", 3, 4);
        edge.fraction("likely(0, 2", 1, 12);
        edge.fraction("likely(0, 4", 0, 1);
    }

    private static void all() {
        edge.sentence("ALL: that all BEGINNINGS come OUT at one PLACE.");
        edge.given();
        edge.fraction("all(", 1, 1);
        // one alone always does
        edge.page("??9", 1);
        edge.fraction("all(", 1, 1);
        // 0 to 1, or 0 to 2 and 1 to 2
        edge.page("??9", 2);
        edge.fraction("all(", 4, 9);
        // 1 to 2, and 0 to either
        edge.page("??9", 3);
        edge.fraction("all(", 2, 9);
        edge.page("T".repeat(20), 10);
        edge.fraction("all(", 0, 1);
        edge.page("1".repeat(40), 10);
        edge.fraction("all(", 1, 1);
    }

    private static void likelyRefused() {
        edge.sentence("LIKELY. UNKNOWN; OUTSIDE; STATE: there are free PLACES.");
        edge.page("1?9", 1);
        edge.fraction("likely(0, 2", 1, 3);
        likelyUnknownAndOutside();
        // none comes to the free place, and still there is one
        String[] free = {"9*9", "??*", "*11"};
        for (String text : free) {
            edge.page(text, 1);
            edge.refused("likely(0, 2, 0)", LOST_STATE);
            edge.refused("likely(0, 0, 1)", LOST_STATE);
            likelyUnknownAndOutside();
        }
    }

    private static void likelyUnknownAndOutside() {
        for (String place : NO_PLACES_OF_THREE) {
            edge.refused("likely(" + place + ", 0, 0)", LOST_UNKNOWN);
            edge.refused("likely(2, " + place + ", 1)", LOST_UNKNOWN);
            edge.refused("likely(" + place + ", " + place + ", 2)", LOST_UNKNOWN);
            edge.refused("likely(2, " + place + ", -1)", LOST_UNKNOWN);
        }
        for (String part : NO_PARTS) {
            edge.refused("likely(0, 2, " + part + ")", LOST_OUTSIDE);
            edge.refused("likely(2, 2, " + part + ")", LOST_OUTSIDE);
        }
    }

    private static void allRefused() {
        edge.sentence("ALL. OUTSIDE; STATE, likewise.");
        String[] texts = {"1?9", "9*9", "??*"};
        for (String text : texts) {
            edge.page(text, 2);
            for (String part : NO_PARTS) {
                edge.refused("all(" + part + ")", LOST_OUTSIDE);
            }
        }
        edge.refused("all(0)", LOST_STATE);
        edge.refused("all(1)", LOST_STATE);
        edge.page("9*9", 1);
        edge.refused("all(0)", LOST_STATE);
        edge.page("1?9", 2);
        edge.fraction("all(", 1, 1);
    }
}
