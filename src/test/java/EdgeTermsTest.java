/** What the document's first paragraphs say of every call: how many, which refusal, and that it changes nothing. */
public final class EdgeTermsTest implements Answers {
    private static final Edge edge = new Edge();
    private static final String SIX_SIGHTS = "seen(0, 2)";
    /** A page with a free and a drawn place, all that can be full full, a fault on the pad, one image kept. */
    private static final String[] ALL_AMISS = {
        "text(2?1)", "page()", "begin(2)", "seen(1, 2)", "court(3)", "image(0)",
        "text(1*?K)", "page()", "begin(3)", "court(7)", "allow(36)", "weight(10, 9)",
        SIX_SIGHTS, SIX_SIGHTS, SIX_SIGHTS, SIX_SIGHTS, SIX_SIGHTS, SIX_SIGHTS, "text(" + "x".repeat(48) + ")"};

    public static void main(String[] args) {
        calls();
        unknownFirst();
        outsideNext();
        stateNext();
        changeNothing();
        edge.end();
    }

    private static void calls() {
        edge.sentence("An object is used for at most 512 calls after it has been made");
        WhereverBegun x = new WhereverBegun();
        for (int call = 1; call <= 509; call++) {
            edge.is("court", x.court(call % 2 == 1 ? 9 : 5), call % 2 == 1 ? 5 : 9);
        }
        edge.is("call 510", x.say('K'), 1);
        edge.is("call 511", x.page(), 1);
        edge.is("call 512", x.place(0, 1), 9);
    }

    private static void unknownFirst() {
        edge.sentence("the first of these that fits: UNKNOWN -1 (there is no such PLACE, BEGINNING, COUNT)");
        edge.given(ALL_AMISS);
        // before OUTSIDE
        edge.refused("weight(11, 10)", UNKNOWN);
        edge.refused("weight(0, 1)", UNKNOWN);
        edge.refused("place(4, 2)", UNKNOWN);
        // before STATE
        edge.refused("out(4)", UNKNOWN);
        edge.refused("meet(4, 0)", UNKNOWN);
        edge.refused("meet(0, 4)", UNKNOWN);
        edge.refused("minds(4, 1)", UNKNOWN);
        edge.refused("minds(0, 11)", UNKNOWN);
        edge.refused("write(3, 4, -1)", UNKNOWN);
        edge.refused("wrong(4, 0)", UNKNOWN);
        edge.refused("wrong(0, 4)", UNKNOWN);
        // before both
        edge.refused("tree(4, 3)", UNKNOWN);
        edge.refused("tree(4, 0)", UNKNOWN);
        edge.refused("likely(4, 0, 2)", LOST_UNKNOWN);
        edge.refused("likely(0, 4, 0)", LOST_UNKNOWN);
        edge.refused("drawn(1, 1, 2)", LOST_UNKNOWN);
        edge.refused("drawn(0, 11, 2)", LOST_UNKNOWN);
        edge.refused("drawn(0, 0, 0)", LOST_UNKNOWN);
        // before FULL
        edge.refused("seen(4, 0)", UNKNOWN);
        edge.refused("seen(0, 4)", UNKNOWN);
    }

    private static void outsideNext() {
        edge.sentence("OUTSIDE -2 (another number is not as told)");
        edge.given(ALL_AMISS);
        // before STATE
        edge.refused("tree(0, 3)", OUTSIDE);
        edge.refused("one(3)", OUTSIDE);
        edge.refused("best(2)", OUTSIDE);
        edge.refused("likely(0, 1, 2)", LOST_OUTSIDE);
        edge.refused("all(2)", LOST_OUTSIDE);
        edge.refused("write(4, 0, -1)", OUTSIDE);
        edge.refused("write(4, 4, -1)", OUTSIDE);
        edge.refused("drawn(0, 1, 2)", LOST_OUTSIDE);
        edge.refused("restore(2)", OUTSIDE);
        // before FULL
        edge.refused("say(32)", OUTSIDE);
        edge.refused("say(127)", OUTSIDE);
    }

    private static void stateNext() {
        edge.sentence("STATE -3 (as told), FULL -4, NO -5 (as told).");
        edge.given(ALL_AMISS);
        String[] state = {"out(3)", "streams()", "meet(0, 3)", "pass(-1)", "tree(3, 2)", "nowhere()", "minds(3, 10)",
            "one(2)", "best(1)", "write(3, 3, -1)", "soonest(-1)", "fits()", "wrong(0, 3)", "restore(1)"};
        for (String call : state) {
            edge.refused(call, STATE);
        }
        String[] lost = {"likely(0, 3, 1)", "all(1)", "drawn(0, 10, 1)"};
        for (String call : lost) {
            edge.refused(call, LOST_STATE);
        }
        edge.refused("say(33)", FULL);
        edge.refused("seen(3, 3)", FULL);
        edge.refused("page()", NO);
    }

    /** Most refusals stand in the other tests; here those that could touch what they keep or count. */
    private static void changeNothing() {
        edge.sentence("They change nothing.");
        edge.given(ALL_AMISS);
        String[] outside = {"begin(0)", "begin(5)", "begin(11)", "court(0)", "court(11)", "allow(0)", "allow(2047)",
            "weight(1, 10)", "weight(1, -1)", "weight(1, 2)", "place(0, 2)", "shuffle(-1)", "shuffle(10000)", "image(-1)",
            "image(2)", "restore(-1)", "told(8)", "told(21)"};
        for (String call : outside) {
            edge.refused(call, OUTSIDE);
        }
        // a refused call does not spoil the next one that is taken
        edge.taken("page()", NO, "page() = -5", "wipe() = 48", "say(51) = 1", "page() = 1", "place(0, 1) = 3");
        edge.taken("seen(0, 0)", FULL, "forget() = 6", "seen(0, 0) = 1");
        edge.taken("restore(1)", STATE, "image(1) = 1", "restore(1) = 1", "told(7) = 6");
        edge.taken("weight(1, 2)", OUTSIDE, "weight(2, 0) = 1", "weight(1, 2) = 1", "told(11) = 2");
        edge.taken("begin(5)", OUTSIDE, "begin(4) = 3", "told(2) = 4");
    }
}
