/** The boundaries that the document's section 1 and promises 1 to 10 name, sentence by sentence. */
public final class EdgePagesTest implements Answers {
    private static final Edge edge = new Edge();
    private static final String SIGNS = "123456789TAJQK*?";
    /** Sights, beginnings, an image, and a pad with a fault: what a refused call could change. */
    private static final String[] RICH = {
        "text(K?3?)", "page()", "begin(4)", "court(2)", "allow(20)", "weight(7, 5)", "seen(1, 3)", "image(1)",
        "text(2?1?KA)", "page()", "begin(3)", "court(7)", "allow(36)", "weight(7, 4)", "seen(0, 5)", "seen(4, 4)",
        "text(12x)"};

    public static void main(String[] args) {
        lengths();
        signs();
        freeAndDrawn();
        pad();
        faults();
        newObject();
        pages();
        beginnings();
        courts();
        allowed();
        weights();
        places();
        edge.end();
    }

    private static String ones(int n) {
        return "1".repeat(n);
    }

    private static void lengths() {
        edge.sentence("A PAGE is a text of 1 to 40 signs, one for each PLACE (0 on)");
        edge.refused("page()", NO);
        edge.given("text(9)");
        edge.taken("page()", 1, "told(1) = 1", "place(0, 0) = 57", "place(1, 0) = -1");
        edge.given("text(" + ones(39) + "2)");
        edge.taken("page()", 40, "told(1) = 40", "place(39, 0) = 50", "place(40, 0) = -1");
        edge.given("text(" + ones(40) + "2)");
        edge.refused("page()", NO);
        edge.given("text(" + ones(48) + ")");
        edge.refused("page()", NO);
    }

    private static void signs() {
        edge.sentence("1 to 9 (a COUNT)");
        for (int n = 1; n <= 9; n++) {
            edge.given("text(" + n + ")");
            edge.taken("page()", 1, "place(0, 0) = " + ('0' + n), "place(0, 1) = " + n);
        }
        edge.given("text(0)");
        edge.refused("page()", NO);
        edge.given("text(:)");
        edge.refused("page()", NO);
        edge.sentence("T (10), A (1), J, Q, K (COURT: 1 to 10; 5 at first)");
        edge.given("text(TAJQK)");
        edge.taken("page()", 5, "place(0, 1) = 10", "place(1, 1) = 1", "place(2, 1) = 5", "place(3, 1) = 5",
            "place(4, 1) = 5", "court(10) = 5", "place(0, 1) = 10", "place(1, 1) = 1", "place(2, 1) = 10",
            "place(3, 1) = 10", "place(4, 1) = 10", "court(1) = 10", "place(2, 1) = 1", "place(3, 1) = 1",
            "place(4, 1) = 1");
        for (char sign = 33; sign <= 126; sign++) {
            if (SIGNS.indexOf(sign) < 0) {
                edge.given("text(1" + sign + "1)");
                edge.refused("page()", NO);
                edge.asked("fault()", 1);
            }
        }
    }

    private static void freeAndDrawn() {
        edge.sentence("* (free: 4 at most)");
        edge.given("text(****)");
        edge.asked("fault()", NONE);
        edge.taken("page()", 4, "told(5) = 4", "told(6) = 0");
        edge.given("text(*****)");
        edge.asked("fault()", 4);
        edge.refused("page()", NO);
        edge.given("text(*1*1*1*" + ones(32) + "*)");
        edge.asked("fault()", 39);
        edge.refused("page()", NO);
        edge.sentence("? (drawn: 5 at most)");
        edge.given("text(?????)");
        edge.asked("fault()", NONE);
        edge.taken("page()", 5, "told(5) = 0", "told(6) = 5");
        edge.given("text(??????)");
        edge.asked("fault()", 5);
        edge.refused("page()", NO);
        edge.given("text(?1?1?1?1?" + ones(30) + "?)");
        edge.asked("fault()", 39);
        edge.refused("page()", NO);
        // one kind does not take room from the other
        edge.given("text(****?????)");
        edge.taken("page()", 9, "told(5) = 4", "told(6) = 5");
        edge.given("text(?????****)");
        edge.taken("page()", 9, "told(5) = 4", "told(6) = 5");
        edge.given("text(****?????*)");
        edge.asked("fault()", 9);
        edge.given("text(?????****?)");
        edge.asked("fault()", 9);
    }

    private static void pad() {
        edge.sentence("On a PAD (48 SIGNS at most, codes 33 to 126).");
        edge.taken("say(33)", 1, "told(0) = 1");
        edge.taken("say(126)", 1, "told(0) = 1");
        String[] outside = {"32", "127", "0", "-1", "10", "128", "160", "255", "305", "65585", "-65487", "MIN", "MAX"};
        for (String code : outside) {
            edge.refused("say(" + code + ")", OUTSIDE);
        }
        edge.given("text(" + ones(46) + ")");
        edge.taken("say(49)", 47, "say(49) = 48", "say(49) = -4", "told(0) = 48");

        edge.sentence("A sign more: how many. OUTSIDE; FULL.");
        edge.taken("say(57)", 1, "say(50) = 2", "page() = 2", "place(0, 0) = 57", "place(1, 0) = 50");
        edge.given("text(" + ones(48) + ")");
        edge.refused("say(49)", FULL);
        edge.refused("say(33)", FULL);
        edge.refused("say(126)", FULL);
        edge.refused("say(32)", OUTSIDE);
        edge.refused("say(127)", OUTSIDE);
        edge.taken("say(49)", FULL, "wipe() = 48", "say(50) = 1", "page() = 1", "place(0, 0) = 50");
        edge.given(RICH);
        edge.refused("say(32)", OUTSIDE);
        edge.refused("say(127)", OUTSIDE);

        edge.sentence("Signs go: how many there were.");
        edge.asked("wipe()", 0);
        edge.given("text(1)");
        edge.taken("wipe()", 1, "told(0) = 0", "wipe() = 0", "fault() = 0", "page() = -5");
        edge.given("text(" + ones(48) + ")");
        edge.taken("wipe()", 48, "told(0) = 0", "wipe() = 0", "say(49) = 1");
        edge.given(RICH);
        edge.taken("wipe()", 3, "told(1) = 6", "told(2) = 3", "told(7) = 2", "place(0, 0) = 50", "fault() = 0");
    }

    private static void faultIs(String text, int want) {
        edge.given("text(" + text + ")");
        edge.asked("fault()", want);
        if (want == NONE) {
            edge.taken("page()", text.length(), "told(0) = 0", "told(1) = " + text.length());
        } else {
            edge.refused("page()", NO);
        }
    }

    private static void faults() {
        edge.sentence("the place (from 0 on) of the first sign that can not stand there");
        faultIs("x", 0);
        faultIs("x1x", 0);
        faultIs("1x", 1);
        faultIs("1xx", 1);
        faultIs(ones(39) + "x", 39);
        faultIs(ones(40) + "x", 40);
        faultIs(ones(41) + "x", 40);
        faultIs(ones(40), NONE);
        faultIs(ones(41), 40);
        faultIs(ones(48), 40);
        faultIs("*****x", 4);
        faultIs("****x*", 4);
        faultIs("****1x*", 5);
        faultIs("??????*****", 5);
        faultIs("*****??????", 4);
        faultIs("****" + ones(36) + "*", 40);
        faultIs("****" + ones(35) + "**", 39);

        edge.sentence("0, if there are none.");
        edge.asked("fault()", 0);
        edge.given("text(1)", "page()");
        edge.asked("fault()", 0);
        edge.given("text(12)", "wipe()");
        edge.asked("fault()", 0);

        edge.sentence("THE FAULT; NONE.");
        faultIs("1", NONE);
        faultIs(SIGNS, NONE);
        edge.given("text(1)");
        edge.taken("fault()", NONE, "say(48) = 2", "fault() = 1", "say(48) = 3", "fault() = 1", "wipe() = 3",
            "fault() = 0");
    }

    private static void newObject() {
        edge.sentence("One PLACE with the COUNT 1.");
        edge.asked("told(1)", 1);
        edge.asked("place(0, 0)", '1');
        edge.asked("place(0, 1)", 1);
        edge.asked("place(1, 0)", UNKNOWN);
        edge.asked("told(0)", 0);
        edge.asked("told(7)", 0);
        edge.refused("begin(2)", OUTSIDE);
        edge.refused("restore(0)", STATE);
        edge.refused("restore(1)", STATE);
        edge.sentence("(At first the PAGE is 1.)");
        edge.taken("court(9)", 5, "place(0, 1) = 1", "place(0, 0) = 49", "out(0) = 0");
    }

    private static void pages() {
        edge.sentence("The PAD becomes the PAGE (it is empty then; SIGHTS go; there is one BEGINNING): PLACES.");
        edge.given("text(" + ones(40) + ")", "page()", "begin(10)", "seen(0, 39)", "seen(0, 39)", "seen(0, 39)",
            "seen(0, 39)", "seen(0, 39)", "seen(0, 39)", "text(23)");
        edge.taken("page()", 2, "told(0) = 0", "told(1) = 2", "told(2) = 1", "told(7) = 0", "fits() = 1",
            "place(0, 0) = 50", "place(1, 0) = 51", "place(2, 0) = -1", "seen(0, 0) = 1");
        edge.given("text(1)");
        edge.taken("page()", 1, "page() = -5", "told(0) = 0", "told(1) = 1");
        edge.given("text(23)", "page()", "begin(2)", "text(23)");
        edge.taken("page()", 2, "told(2) = 1");
        edge.given(RICH);
        edge.taken("wipe()", 3, "say(57) = 1", "page() = 1", "told(3) = 7", "told(4) = 36", "told(17) = 4",
            "restore(1) = 1", "told(1) = 4", "told(2) = 4");
        edge.sentence("NO: there is a FAULT.");
        edge.refused("page()", NO);
        edge.given(RICH);
        edge.refused("page()", NO);
        edge.given("text(" + ones(40) + ")", "page()", "begin(10)", "text(" + ones(41) + ")");
        edge.refused("page()", NO);
    }

    private static void beginnings() {
        edge.sentence("BEGINNINGS: the first so many PLACES (1 to 10; 1 at first; never more than PLACES).");
        edge.asked("told(2)", 1);
        int[] lengths = {1, 2, 9, 10, 11, 40};
        for (int places : lengths) {
            int most = Math.min(places, 10);
            edge.page(ones(places), 1);
            edge.taken("begin(" + most + ")", 1, "told(2) = " + most, "begin(1) = " + most);
            edge.refused("begin(" + (most + 1) + ")", OUTSIDE);
            edge.refused("begin(0)", OUTSIDE);
        }
        edge.sentence("OUTSIDE: 1 to 10, no more than PLACES.");
        edge.page(ones(12), 4, "text(1)");
        edge.taken("begin(1)", 4, "told(2) = 1");
        edge.taken("begin(10)", 4, "told(2) = 10");
        edge.asked("begin(4)", 4);
        String[] outside = {"0", "11", "12", "-1", "MIN", "MAX"};
        for (String n : outside) {
            edge.refused("begin(" + n + ")", OUTSIDE);
        }
        edge.taken("page()", 1, "begin(2) = -2", "told(2) = 1", "begin(1) = 1");
        // pages with free or drawn places have beginnings, too
        edge.page("*?", 1);
        edge.taken("begin(2)", 1, "told(2) = 2");
        edge.refused("begin(3)", OUTSIDE);
    }

    private static void courts() {
        edge.sentence("COURT: which it was. OUTSIDE.");
        edge.taken("court(1)", 5, "told(3) = 1", "court(10) = 1", "told(3) = 10");
        edge.taken("court(10)", 5, "told(3) = 10", "court(1) = 10", "told(3) = 1");
        edge.asked("court(5)", 5);
        edge.given(RICH);
        String[] outside = {"0", "11", "-1", "MIN", "MAX"};
        for (String count : outside) {
            edge.refused("court(" + count + ")", OUTSIDE);
        }
    }

    private static void allowed() {
        edge.sentence("(bits 1 to 10; 1 to 9 at first: 1022)");
        edge.asked("told(4)", 1022);
        for (int count = 1; count <= 10; count++) {
            edge.taken("allow(" + (1 << count) + ")", 1022, "told(4) = " + (1 << count));
        }
        edge.sentence("OUTSIDE: none, others than bits 1 to 10.");
        edge.taken("allow(2046)", 1022, "told(4) = 2046", "allow(2) = 2046", "allow(1024) = 2", "told(4) = 1024");
        edge.asked("allow(1022)", 1022);
        edge.given(RICH);
        String[] outside = {"0", "1", "3", "2047", "2048", "2050", "4094", "65538", "-1", "-2", "MIN", "-2147483646",
            "MAX"};
        for (String counts : outside) {
            edge.refused("allow(" + counts + ")", OUTSIDE);
        }
    }

    private static void weights() {
        edge.sentence("WEIGHTS of COUNTS 1 to 10 (0 to 9, all together 1 to 12; 1 for 1, 2, 3, 0 else at first)");
        for (int count = 1; count <= 10; count++) {
            edge.asked("told(" + (10 + count) + ")", count <= 3 ? 1 : 0);
        }
        // 9 more make 12, and 1 more 13
        edge.taken("weight(10, 9)", 0, "told(20) = 9", "weight(9, 1) = -2", "told(19) = 0");
        edge.given("weight(10, 9)");
        edge.refused("weight(9, 1)", OUTSIDE);
        edge.refused("weight(1, 2)", OUTSIDE);
        edge.asked("weight(1, 1)", 1);
        edge.taken("weight(1, 0)", 1, "weight(9, 1) = 0", "told(19) = 1", "told(11) = 0");
        edge.given("weight(2, 0)", "weight(3, 0)");
        edge.refused("weight(1, 0)", OUTSIDE);
        edge.taken("weight(1, 9)", 1, "told(11) = 9", "weight(1, 1) = 9");
        edge.refused("weight(1, 10)", OUTSIDE);
        edge.given("weight(10, 1)", "weight(1, 0)", "weight(2, 0)", "weight(3, 0)");
        edge.refused("weight(10, 0)", OUTSIDE);

        edge.sentence("UNKNOWN: 1 to 10; OUTSIDE: 0 to 9, all together 1 to 12.");
        edge.given(RICH);
        edge.taken("weight(1, 0)", 1, "told(11) = 0");
        edge.taken("weight(10, 5)", 0, "told(20) = 5");
        edge.refused("weight(10, 6)", OUTSIDE);
        edge.refused("weight(1, -1)", OUTSIDE);
        edge.refused("weight(1, 10)", OUTSIDE);
        edge.refused("weight(7, 10)", OUTSIDE);
        edge.refused("weight(1, MIN)", OUTSIDE);
        edge.refused("weight(1, MAX)", OUTSIDE);
        String[] unknown = {"0", "11", "-1", "MIN", "MAX"};
        for (String count : unknown) {
            edge.refused("weight(" + count + ", 1)", UNKNOWN);
            edge.refused("weight(" + count + ", 0)", UNKNOWN);
            edge.refused("weight(" + count + ", 10)", UNKNOWN);
            edge.refused("weight(" + count + ", -1)", UNKNOWN);
        }
    }

    private static void places() {
        edge.sentence("Of a PLACE: its sign (what = 0), its COUNT (1; NONE: free, drawn). UNKNOWN; OUTSIDE.");
        edge.page("3*?TK", 1, "court(10)");
        edge.asked("place(0, 0)", '3');
        edge.asked("place(0, 1)", 3);
        edge.asked("place(1, 0)", '*');
        edge.asked("place(1, 1)", NONE);
        edge.asked("place(2, 0)", '?');
        edge.asked("place(2, 1)", NONE);
        edge.asked("place(3, 1)", 10);
        edge.asked("place(4, 0)", 'K');
        edge.asked("place(4, 1)", 10);
        String[] unknown = {"-1", "5", "40", "MIN", "MAX"};
        for (String place : unknown) {
            edge.refused("place(" + place + ", 0)", UNKNOWN);
            edge.refused("place(" + place + ", 1)", UNKNOWN);
            edge.refused("place(" + place + ", 2)", UNKNOWN);
        }
        String[] outside = {"-1", "2", "MIN", "MAX"};
        for (String what : outside) {
            edge.refused("place(0, " + what + ")", OUTSIDE);
            edge.refused("place(1, " + what + ")", OUTSIDE);
            edge.refused("place(4, " + what + ")", OUTSIDE);
        }
    }
}
