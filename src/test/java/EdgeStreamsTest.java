/** The boundaries that the document's section 2 and promises 11 to 19 name, sentence by sentence. */
public final class EdgeStreamsTest implements Answers {
    private static final Edge edge = new Edge();
    private static final String[] NO_PLACES_OF_SEVEN = {"-1", "7", "40", "MIN", "MAX"};
    private static final String[] NO_COUNTS = {"0", "11", "-1", "MIN", "MAX"};
    /** 0, 1 and 2 -> 3 -> 4 -> 6, 5 -> 6, out. */
    private static final String SEVEN = "3211211";

    public static void main(String[] args) {
        whole();
        outs();
        streams();
        meetings();
        passed();
        trees();
        nowhere();
        minds();
        one();
        best();
        edge.end();
    }

    private static String ones(int n) {
        return "1".repeat(n);
    }

    private static void whole() {
        edge.sentence("A PAGE is WHOLE without free and drawn PLACES.");
        String[] calls = {"out(0)", "streams()", "meet(0, 0)", "pass(-1)", "pass(0)", "pass(-2)", "pass(9)",
            "tree(0, 0)", "tree(0, 1)", "tree(0, 2)", "nowhere()", "minds(0, 1)", "minds(0, 10)", "one(0)", "one(1)",
            "one(2)", "best(0)", "best(1)", "wrong(0, 0)"};
        // of 9* and 9? none comes to the last place, and still they are not whole
        String[] others = {"*", "?", "11*", "11?", "*11", "?11", "9*", "9?", "*?"};
        for (String text : others) {
            edge.page(text, 1, "text(12)", "image(0)", "seen(0, 0)");
            for (String call : calls) {
                edge.refused(call, STATE);
            }
        }
        long[] want = {2, 1, 0, 3, 0, NONE, NONE, 1, 0, 0, 1, 0, 1, 0, 3, 1, 1, 1, 0};
        edge.page("111", 1, "text(12)", "image(0)", "seen(0, 0)");
        for (int n = 0; n < calls.length; n++) {
            edge.asked(calls[n], want[n]);
        }
    }

    private static void outs() {
        edge.sentence("where there is none, one comes OUT there: OUT of a PLACE.");
        String signs = "123456789T";
        for (int count = 1; count <= 10; count++) {
            String sign = signs.substring(count - 1, count);
            // one place more, and the count leads to it; one less, and it leads beyond
            edge.page(sign + ones(count), 1);
            edge.asked("out(0)", count);
            edge.page(sign + ones(count - 1), 1);
            edge.asked("out(0)", 0);
        }
        edge.page("T".repeat(40), 10);
        edge.asked("out(0)", 30);
        edge.asked("out(29)", 39);
        edge.asked("out(30)", 30);
        edge.asked("out(39)", 39);
        edge.page(ones(40), 10);
        edge.asked("out(0)", 39);

        edge.sentence("OUT of a PLACE. UNKNOWN; STATE: the PAGE is not WHOLE.");
        edge.page(SEVEN, 3);
        edge.asked("out(0)", 6);
        edge.asked("out(6)", 6);
        for (String place : NO_PLACES_OF_SEVEN) {
            edge.refused("out(" + place + ")", UNKNOWN);
        }
        edge.page("11*1?11", 3);
        edge.refused("out(6)", STATE);
        for (String place : NO_PLACES_OF_SEVEN) {
            edge.refused("out(" + place + ")", UNKNOWN);
        }
    }

    private static void streams() {
        edge.sentence("A STREAM: all PLACES that one comes to, that one, too.");
        edge.page("11", 1);
        edge.asked("pass(-1)", 2);
        edge.asked("pass(0)", 0);
        edge.asked("pass(1)", 1);
        edge.asked("tree(0, 0)", 1);
        edge.asked("meet(0, 1)", 1);
        edge.asked("meet(1, 0)", 1);

        edge.sentence("STREAMS: how many PLACES are OUT of some BEGINNING.");
        edge.asked("streams()", 1);
        edge.page("99", 1);
        edge.asked("streams()", 1);
        edge.page("99", 2);
        edge.asked("streams()", 2);
        edge.page("T".repeat(20), 10);
        edge.asked("streams()", 10);
        edge.page("T".repeat(20), 9);
        edge.asked("streams()", 9);
        edge.page(ones(40), 10);
        edge.asked("streams()", 1);
        edge.sentence("STREAMS. STATE, likewise.");
        edge.asked("streams()", 1);
        edge.page("1*", 1);
        edge.refused("streams()", STATE);
        edge.page("1?", 1);
        edge.refused("streams()", STATE);
    }

    private static void meetings() {
        edge.sentence("MEET of two PLACES: the first PLACE of both STREAMS.");
        edge.page(SEVEN, 1);
        edge.asked("meet(0, 1)", 3);
        edge.asked("meet(1, 0)", 3);
        edge.asked("meet(0, 3)", 3);
        edge.asked("meet(4, 0)", 4);
        // just at the last place
        edge.asked("meet(0, 5)", 6);
        edge.asked("meet(5, 6)", 6);
        edge.page(ones(40), 1);
        edge.asked("meet(0, 39)", 39);
        edge.asked("meet(38, 39)", 39);
        edge.asked("meet(0, 1)", 1);

        edge.sentence("MEET of two PLACES (of one and the same: itself); NONE. UNKNOWN; STATE, likewise.");
        edge.page("2119999", 1);
        // 0 and 1 -> 2 -> 3, out; all behind come out where they are
        edge.asked("meet(0, 0)", 0);
        edge.asked("meet(3, 3)", 3);
        edge.asked("meet(6, 6)", 6);
        edge.asked("meet(0, 3)", 3);
        edge.asked("meet(0, 4)", NONE);
        edge.asked("meet(5, 6)", NONE);
        for (String place : NO_PLACES_OF_SEVEN) {
            edge.refused("meet(0, " + place + ")", UNKNOWN);
            edge.refused("meet(" + place + ", 6)", UNKNOWN);
            edge.refused("meet(" + place + ", " + place + ")", UNKNOWN);
        }
        edge.page("11*1?11", 1);
        edge.refused("meet(0, 6)", STATE);
        edge.refused("meet(6, 6)", STATE);
        for (String place : NO_PLACES_OF_SEVEN) {
            edge.refused("meet(0, " + place + ")", UNKNOWN);
            edge.refused("meet(" + place + ", 6)", UNKNOWN);
        }
    }

    private static void passed() {
        edge.sentence("PASS: PLACES in the STREAMS of all BEGINNINGS.");
        edge.page(ones(40), 10);
        edge.asked("pass(-1)", 31);
        edge.asked("pass(0)", 9);
        edge.asked("pass(30)", 39);
        edge.asked("pass(31)", NONE);
        edge.page(ones(40), 1);
        edge.asked("pass(-1)", 40);
        edge.asked("pass(39)", 39);
        edge.asked("pass(40)", NONE);
        edge.sentence("PASS: how many PLACES (i = -1), the i-th; NONE (i below -1, too).");
        edge.page("2111", 2);
        edge.asked("pass(-1)", 2);
        edge.asked("pass(0)", 2);
        edge.asked("pass(1)", 3);
        String[] none = {"2", "3", "-2", "-3", "40", "64", "MIN", "MAX"};
        for (String i : none) {
            edge.asked("pass(" + i + ")", NONE);
        }
        edge.page("99", 2);
        edge.asked("pass(-1)", 0);
        edge.asked("pass(0)", NONE);
        edge.asked("pass(-2)", NONE);
        edge.given();
        edge.asked("pass(-1)", 1);
        edge.asked("pass(0)", 0);
        edge.asked("pass(1)", NONE);
        edge.sentence("NONE (i below -1, too). STATE, likewise.");
        String[] any = {"-1", "0", "1", "-2", "40", "MIN", "MAX"};
        edge.page("1*", 1);
        for (String i : any) {
            edge.refused("pass(" + i + ")", STATE);
        }
        edge.page("1?", 1);
        for (String i : any) {
            edge.refused("pass(" + i + ")", STATE);
        }
    }

    private static void trees() {
        edge.sentence("Of a PLACE: how many BEGINNINGS come to it; how many PLACES lead to it at once");
        // each of ten leads to the eleventh
        edge.page("T9876543211", 10);
        edge.asked("tree(10, 0)", 10);
        edge.asked("tree(10, 1)", 10);
        edge.asked("tree(9, 0)", 1);
        edge.asked("tree(9, 1)", 0);
        edge.page("T9876543211", 9);
        edge.asked("tree(10, 0)", 9);
        edge.asked("tree(9, 0)", 0);
        edge.asked("tree(10, 1)", 10);
        edge.sentence("the most PLACES one behind another that lead to it (0: it comes from NOWHERE).");
        edge.asked("tree(0, 2)", 0);
        edge.page("T9876543211", 1);
        edge.asked("tree(10, 2)", 1);
        edge.asked("tree(9, 2)", 0);
        edge.page(ones(40), 1);
        edge.asked("tree(0, 2)", 0);
        edge.asked("tree(1, 2)", 1);
        edge.asked("tree(39, 2)", 39);
        // 0 -> 4 at once, and 1 -> 2 -> 3 -> 4
        edge.page("41111", 1);
        edge.asked("tree(4, 2)", 3);
        edge.asked("tree(4, 1)", 2);

        edge.sentence("the most one behind another (2). UNKNOWN; OUTSIDE; STATE, likewise.");
        edge.page(SEVEN, 3);
        edge.asked("tree(6, 0)", 3);
        edge.asked("tree(6, 1)", 2);
        edge.asked("tree(6, 2)", 3);
        treeRefused();
        edge.page("11*1?11", 3);
        for (int what = 0; what <= 2; what++) {
            edge.refused("tree(0, " + what + ")", STATE);
            edge.refused("tree(6, " + what + ")", STATE);
        }
        treeRefused();
    }

    private static void treeRefused() {
        for (String place : NO_PLACES_OF_SEVEN) {
            edge.refused("tree(" + place + ", 0)", UNKNOWN);
            edge.refused("tree(" + place + ", 2)", UNKNOWN);
            edge.refused("tree(" + place + ", 3)", UNKNOWN);
            edge.refused("tree(" + place + ", -1)", UNKNOWN);
        }
        String[] outside = {"-1", "3", "MIN", "MAX"};
        for (String what : outside) {
            edge.refused("tree(0, " + what + ")", OUTSIDE);
            edge.refused("tree(6, " + what + ")", OUTSIDE);
        }
    }

    private static void nowhere() {
        edge.sentence("How many PLACES come from NOWHERE. STATE, likewise.");
        edge.asked("nowhere()", 1);
        edge.page(ones(40), 1);
        edge.asked("nowhere()", 1);
        edge.page("T".repeat(40), 1);
        edge.asked("nowhere()", 10);
        edge.page("9999", 1);
        edge.asked("nowhere()", 4);
        edge.page("999*", 1);
        edge.refused("nowhere()", STATE);
    }

    private static void minds() {
        edge.sentence("CHANGED: a PLACE has another COUNT: MINDS: how many BEGINNINGS come OUT elsewhere.");
        edge.page(SEVEN, 3);
        edge.asked("minds(3, 1)", 0);
        edge.asked("minds(3, 2)", 0);
        // to the last place, and beyond it
        edge.asked("minds(3, 3)", 0);
        edge.asked("minds(3, 4)", 3);
        edge.asked("minds(0, 6)", 0);
        edge.asked("minds(0, 7)", 1);
        edge.asked("minds(5, 10)", 0);
        edge.asked("minds(6, 10)", 0);
        edge.page(SEVEN, 1);
        edge.asked("minds(3, 4)", 1);
        edge.asked("minds(1, 10)", 0);
        edge.page(ones(40), 10);
        edge.asked("minds(38, 1)", 0);
        edge.asked("minds(38, 2)", 10);
        edge.asked("minds(9, 10)", 0);
        edge.asked("minds(39, 1)", 0);

        edge.sentence("UNKNOWN: the PLACE, the COUNT 1 to 10; STATE, likewise.");
        edge.page(SEVEN, 3);
        edge.asked("minds(0, 10)", 1);
        edge.asked("minds(6, 1)", 0);
        mindsRefused();
        edge.page("11*1?11", 3);
        edge.refused("minds(0, 1)", STATE);
        edge.refused("minds(6, 10)", STATE);
        // another count for the free place does not make it whole
        edge.refused("minds(2, 1)", STATE);
        mindsRefused();
    }

    private static void mindsRefused() {
        for (String place : NO_PLACES_OF_SEVEN) {
            edge.refused("minds(" + place + ", 1)", UNKNOWN);
            edge.refused("minds(" + place + ", 11)", UNKNOWN);
        }
        for (String count : NO_COUNTS) {
            edge.refused("minds(0, " + count + ")", UNKNOWN);
            edge.refused("minds(6, " + count + ")", UNKNOWN);
        }
    }

    private static void oneIs(int place, int count, int minds) {
        edge.asked("one(0)", place);
        edge.asked("one(1)", count);
        edge.asked("one(2)", minds);
    }

    private static void one() {
        edge.sentence("of several the least PLACE, then the least COUNT (one that has it already changes none).");
        edge.page("9999", 4);
        oneIs(0, 1, 1);
        // 0 -> 1, out: by 1 it is as it is
        edge.page("1999", 1);
        oneIs(0, 2, 1);
        // 0 by 1 and by 2 comes to the last place; 1 by 2 would change as many
        edge.page("211", 2);
        oneIs(0, 3, 1);
        // more minds at a later place go before a lesser place
        edge.page(SEVEN, 3);
        oneIs(3, 4, 3);
        edge.page(ones(40), 10);
        oneIs(30, 10, 10);

        edge.sentence("NONE: none changes any (2: 0).");
        edge.page("5", 1);
        oneIs(NONE, NONE, 0);
        // ten is the most: whatever the first place has, one comes to the last
        edge.page("T1111111111", 1);
        oneIs(NONE, NONE, 0);
        edge.page("T111111111", 1);
        oneIs(0, 1, 1);
        edge.page("T1111111111", 2);
        oneIs(1, 10, 1);

        edge.sentence("ONE: the PLACE (what = 0), the COUNT (1), MINDS (2)");
        String[] outside = {"-1", "3", "MIN", "MAX"};
        edge.page(SEVEN, 3);
        for (String what : outside) {
            edge.refused("one(" + what + ")", OUTSIDE);
        }
        edge.page("11*1?11", 3);
        for (String what : outside) {
            edge.refused("one(" + what + ")", OUTSIDE);
        }
        edge.refused("one(0)", STATE);
        edge.refused("one(2)", STATE);
    }

    private static void bestIs(int count, int together) {
        edge.asked("best(0)", count);
        edge.asked("best(1)", together);
    }

    private static void best() {
        edge.sentence("most BEGINNINGS come OUT at one PLACE (the greatest number that do); of several the least.");
        // without court cards all counts are alike
        edge.page("9999", 4);
        bestIs(1, 1);
        edge.page(ones(40), 10);
        bestIs(1, 10);
        edge.given();
        bestIs(1, 1);
        edge.page("K9115", 4);
        bestIs(2, 3);
        // by 1 and by 2 two come out together
        edge.page("J9Q11", 3);
        bestIs(1, 2);
        edge.page("5KK5267583K1K", 3);
        bestIs(10, 3);
        edge.sentence("BEST COURT (what = 0), how many come OUT at one PLACE by it (1). OUTSIDE; STATE, likewise.");
        edge.page("K9115", 4, "court(10)");
        bestIs(2, 3);
        String[] outside = {"-1", "2", "MIN", "MAX"};
        for (String what : outside) {
            edge.refused("best(" + what + ")", OUTSIDE);
        }
        edge.page("K*1?5", 4);
        for (String what : outside) {
            edge.refused("best(" + what + ")", OUTSIDE);
        }
        edge.refused("best(0)", STATE);
        edge.refused("best(1)", STATE);
    }
}
