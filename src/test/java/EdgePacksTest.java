/** The boundaries that the document's section 5 and promises 28 to 32 name, sentence by sentence. */
public final class EdgePacksTest implements Answers {
    private static final Edge edge = new Edge();
    /** Both images kept, sights full, and signs on the pad. */
    private static final String[] RICH = {
        "text(K?3?)", "page()", "begin(4)", "court(2)", "allow(20)", "weight(7, 5)", "seen(1, 3)", "image(1)",
        "text(2?1)", "page()", "begin(2)", "seen(0, 2)", "image(0)",
        "text(12?KA)", "page()", "begin(3)", "court(7)", "seen(0, 4)", "seen(1, 4)", "seen(2, 4)", "seen(3, 3)",
        "seen(4, 4)", "seen(4, 4)", "text(12)"};

    public static void main(String[] args) {
        shuffles();
        seeds();
        wrongs();
        wrongRefused();
        images();
        restored();
        told();
        edge.end();
    }

    /** What place(0, 0), place(1, 0) .. answer afterwards. */
    private static String[] rows(String text) {
        String[] rows = new String[text.length()];
        for (int p = 0; p < rows.length; p++) {
            rows[p] = "place(" + p + ", 0) = " + (int) text.charAt(p);
        }
        return rows;
    }

    private static void shuffles() {
        edge.sentence("for i from the last PLACE to 1");
        // of one place nothing is changed about
        edge.page("7", 1);
        edge.asked("shuffle(0)", 1);
        edge.asked("shuffle(9999)", 1);
        // 74 is even, 149 odd: of two places they are changed about, or each stays
        edge.page("12", 1);
        edge.taken("shuffle(0)", 2, rows("21"));
        edge.asked("shuffle(1)", 2);
        // 74 by 3: the last stays; 5624 by 2: the first two are changed about
        edge.page("123", 1);
        edge.taken("shuffle(0)", 3, rows("213"));
        // 149 by 3: the last stays; 11249 by 2: all stay
        edge.asked("shuffle(1)", 3);
        // 224 by 3: the last stays; 16874 by 2: the first two
        edge.taken("shuffle(2)", 3, rows("213"));
        // 74 by 4: 2; 5624 by 3: 2; 28652 by 2: 0
        edge.page("1*?K", 1);
        edge.taken("shuffle(0)", 4, rows("*1K?"));

        edge.sentence("PLACE i and the PLACE seed left over by (i and 1) are changed about.");
        // 149 by 4: 1; 11249 by 3: 2, and 57305 by 2: 1, each with itself
        edge.page("1234", 1);
        edge.taken("shuffle(1)", 4, rows("1432"));
        // 74 by 40: 34; by then 12409 by 35: 19; by then 43639 by 30: 19, so the 2 comes to 29
        edge.page("1".repeat(39) + "2", 1);
        edge.taken("shuffle(0)", 40, rows("1".repeat(29) + "2" + "1".repeat(10)));

        edge.sentence("the seed becomes seed times 75 and 74, left over by 65537");
        edge.page("12", 1);
        // 65474, the last that is less than 65537: even
        edge.taken("shuffle(872)", 2, rows("21"));
        // 65549 would be odd; left over are 12
        edge.taken("shuffle(873)", 2, rows("21"));
        // 65624 would be even; left over are 87
        edge.asked("shuffle(874)", 2);
        // 749999: 29092 are left over; 749924: 29017
        edge.taken("shuffle(9999)", 2, rows("21"));
        edge.asked("shuffle(9998)", 2);
    }

    private static void seeds() {
        edge.sentence("SHUFFLED by a seed (0 to 9999)");
        edge.page("1*?K", 1);
        edge.taken("shuffle(9999)", 4, rows("K*?1"));
        edge.refused("shuffle(-1)", OUTSIDE);
        edge.refused("shuffle(10000)", OUTSIDE);
        edge.sentence("SHUFFLED: PLACES. OUTSIDE.");
        String[] outside = {"-1", "10000", "-9999", "65537", "MIN", "MAX"};
        edge.given(RICH);
        for (String seed : outside) {
            edge.refused("shuffle(" + seed + ")", OUTSIDE);
        }
        edge.page("1".repeat(40), 1);
        edge.taken("shuffle(0)", 40, "told(1) = 40");
        edge.sentence("The PAGE is so then.");
        // the page alone: beginnings, sights, signs and images stay
        edge.given(RICH);
        edge.taken("shuffle(0)", 5, "told(0) = 2", "told(2) = 3", "told(3) = 7", "told(6) = 1", "told(7) = 6",
            "restore(0) = 1", "place(0, 0) = 50", "place(1, 0) = 63", "place(2, 0) = 49");
        // one after the other, from the page as it is then
        edge.page("12", 1);
        edge.taken("shuffle(0)", 2, "shuffle(0) = 2", "place(0, 0) = 49", "place(1, 0) = 50");
    }

    /** How many of the seeds from first to last part two places, by shuffle and meet alone. */
    private static int parted(String text, int a, int b, int first, int last) {
        int parted = 0;
        for (int seed = first; seed <= last; seed++) {
            WhereverBegun x = new WhereverBegun();
            Due.say(x, text);
            x.page();
            x.shuffle(seed);
            parted += x.meet(a, b) == NONE ? 1 : 0;
        }
        return parted;
    }

    private static void wrongs() {
        edge.sentence("WRONG: for seeds 0 to 99 of a WHOLE PAGE, each from the PAGE as it is");
        String[] texts = {"19", "129", "1239", "5KT1A32847", "12345" + "6789T".repeat(7)};
        for (String text : texts) {
            edge.page(text, 1);
            edge.asked("wrong(0, 1)", parted(text, 0, 1, 0, 99));
            edge.asked("wrong(1, 0)", parted(text, 0, 1, 0, 99));
            int last = text.length() - 1;
            edge.asked("wrong(0, " + last + ")", parted(text, 0, last, 0, 99));
        }
        // of 19 every second seed parts them, from 0 on: neither 0 nor 98 may be left out, nor 100 come in
        edge.page("19", 1);
        edge.asked("wrong(0, 1)", 50);
        edge.is("seeds 1 to 99", parted("19", 0, 1, 1, 99), 49);
        edge.is("seeds 0 to 97", parted("19", 0, 1, 0, 97), 49);
        edge.is("seeds 0 to 100", parted("19", 0, 1, 0, 100), 51);
        // of 91 every second from 1 on, 99 too
        edge.page("91", 1);
        edge.asked("wrong(0, 1)", 50);
        edge.is("seeds 0 to 98", parted("91", 0, 1, 0, 98), 49);
        edge.is("seeds 0 to 101", parted("91", 0, 1, 0, 101), 51);
    }

    private static void wrongRefused() {
        edge.sentence("how many times two PLACES do not MEET.");
        edge.asked("wrong(0, 0)", 0);
        edge.page("999", 1);
        edge.asked("wrong(0, 2)", 100);
        edge.asked("wrong(2, 2)", 0);
        edge.page("111", 1);
        edge.asked("wrong(0, 2)", 0);
        edge.page("KK", 1, "court(1)");
        edge.asked("wrong(0, 1)", 0);
        edge.page("KK", 1, "court(2)");
        edge.asked("wrong(0, 1)", 100);
        edge.sentence("WRONG. UNKNOWN; STATE: the PAGE is not WHOLE.");
        String[] texts = {"129", "1*9", "12?", "*?9"};
        String[] unknown = {"-1", "3", "40", "MIN", "MAX"};
        for (String text : texts) {
            edge.page(text, 1);
            for (String place : unknown) {
                edge.refused("wrong(" + place + ", 0)", UNKNOWN);
                edge.refused("wrong(2, " + place + ")", UNKNOWN);
                edge.refused("wrong(" + place + ", " + place + ")", UNKNOWN);
            }
            if (!text.equals("129")) {
                edge.refused("wrong(0, 2)", STATE);
                edge.refused("wrong(1, 1)", STATE);
            }
        }
    }

    private static void images() {
        edge.sentence("All but the PAD is kept in an IMAGE (0, 1): 1. OUTSIDE.");
        String[] outside = {"-1", "2", "MIN", "MAX"};
        for (String n : outside) {
            edge.refused("image(" + n + ")", OUTSIDE);
        }
        edge.given(RICH);
        for (String n : outside) {
            edge.refused("image(" + n + ")", OUTSIDE);
        }
        String[] kept = {"court(9) = 7", "allow(2) = 20", "weight(7, 0) = 5", "begin(1) = 3", "forget() = 6",
            "shuffle(0) = 5", "say(57) = 3"};
        for (int n = 0; n <= 1; n++) {
            edge.taken("image(" + n + ")", 1, join(kept, "restore(" + n + ") = 1", "told(0) = 3", "told(1) = 5",
                "told(2) = 3", "told(3) = 7", "told(4) = 20", "told(6) = 1", "told(7) = 6", "told(17) = 5",
                "place(0, 0) = 49", "place(1, 0) = 50", "place(2, 0) = 63", "place(3, 0) = 75", "place(4, 0) = 65"));
        }
        // the other image stays
        edge.taken("image(0)", 1, "restore(1) = 1", "told(1) = 4", "told(2) = 4", "told(3) = 2", "told(7) = 1");
        edge.taken("image(1)", 1, "restore(0) = 1", "told(1) = 3", "told(2) = 2", "told(3) = 2", "told(7) = 1");
        keptToTheLast();
        // a new one takes the place of the old one
        edge.given("court(3)", "image(0)", "court(4)");
        edge.taken("image(0)", 1, "court(9) = 4", "restore(0) = 1", "told(3) = 4");
        // the pad is not kept, neither full nor empty
        edge.given("text(123)");
        edge.taken("image(0)", 1, "wipe() = 3", "restore(0) = 1", "told(0) = 0", "fault() = 0");
        edge.taken("image(0)", 1, "page() = 3", "restore(0) = 1", "told(0) = 0", "told(1) = 1");
    }

    /** The last of the places, of the weights and of the sights are kept as the first are. */
    private static void keptToTheLast() {
        edge.given("text(" + "1".repeat(39) + "7)", "page()");
        edge.taken("image(0)", 1, "say(49) = 1", "page() = 1", "restore(0) = 1", "told(1) = 40", "place(0, 0) = 49",
            "place(38, 0) = 49", "place(39, 0) = 55");
        edge.given("weight(1, 0)", "weight(9, 4)", "weight(10, 5)");
        edge.taken("image(1)", 1, "weight(9, 0) = 4", "weight(10, 0) = 5", "weight(1, 3) = 0", "restore(1) = 1",
            "told(11) = 0", "told(12) = 1", "told(19) = 4", "told(20) = 5");
        // the sixth sight is the one that tells
        edge.page("?1?9", 1, "seen(3, 3)", "seen(3, 3)", "seen(3, 3)", "seen(3, 3)", "seen(3, 3)", "seen(0, 3)");
        edge.asked("fits()", 5);
        edge.taken("image(0)", 1, "forget() = 6", "fits() = 9", "seen(2, 2) = 1", "seen(2, 2) = 2", "seen(2, 2) = 3",
            "seen(2, 2) = 4", "seen(2, 2) = 5", "seen(2, 2) = 6", "fits() = 6", "restore(0) = 1", "told(7) = 6",
            "fits() = 5");
    }

    private static String[] join(String[] first, String... second) {
        String[] all = java.util.Arrays.copyOf(first, first.length + second.length);
        System.arraycopy(second, 0, all, first.length, second.length);
        return all;
    }

    private static void restored() {
        edge.sentence("It is as it was when it was kept: 1. OUTSIDE; STATE: it was not.");
        String[] outside = {"-1", "2", "MIN", "MAX"};
        for (String n : outside) {
            edge.refused("restore(" + n + ")", OUTSIDE);
        }
        edge.refused("restore(0)", STATE);
        edge.refused("restore(1)", STATE);
        edge.given("text(123)", "page()", "begin(3)", "seen(0, 1)", "image(0)", "text(x)");
        edge.refused("restore(1)", STATE);
        edge.asked("restore(0)", 1);
        edge.given("text(123)", "page()", "begin(3)", "seen(0, 1)", "image(1)", "text(x)");
        edge.refused("restore(0)", STATE);
        edge.asked("restore(1)", 1);
        edge.given(RICH);
        for (String n : outside) {
            edge.refused("restore(" + n + ")", OUTSIDE);
        }
        // it may be restored again and again, and what follows does not change it
        edge.taken("restore(0)", 1, "told(0) = 2", "told(1) = 3", "court(9) = 2", "seen(1, 1) = 2", "weight(1, 0) = 1",
            "begin(3) = 2", "shuffle(0) = 3", "restore(0) = 1", "told(2) = 2", "told(3) = 2", "told(7) = 1",
            "told(11) = 1", "place(0, 0) = 50", "place(1, 0) = 63", "place(2, 0) = 49");
        // an image of a longer page than there is now, and of a shorter one
        edge.given("image(0)", "text(" + "1".repeat(40) + ")", "page()", "begin(10)", "image(1)");
        edge.taken("restore(0)", 1, "told(1) = 1", "told(2) = 1", "place(1, 0) = -1", "restore(1) = 1",
            "told(1) = 40", "told(2) = 10", "place(39, 0) = 49");
    }

    private static void told() {
        edge.sentence("0 signs, 1 PLACES, 2 BEGINNINGS, 3 COURT, 4 ALLOWED, 5 free PLACES, 6 drawn ones, 7 SIGHTS");
        long[] first = {0, 1, 1, 5, 1022, 0, 0, 0};
        for (int what = 0; what <= 7; what++) {
            edge.asked("told(" + what + ")", first[what]);
        }
        edge.given("text(*?K*?**???)", "page()", "begin(10)", "court(10)", "allow(2046)", "seen(0, 9)", "seen(0, 9)",
            "seen(0, 9)", "seen(0, 9)", "seen(0, 9)", "seen(0, 9)", "text(" + "x".repeat(48) + ")");
        long[] full = {48, 10, 10, 10, 2046, 4, 5, 6};
        for (int what = 0; what <= 7; what++) {
            edge.asked("told(" + what + ")", full[what]);
        }
        edge.sentence("11 to 20 WEIGHTS of COUNTS 1 to 10. OUTSIDE.");
        edge.given("weight(1, 2)", "weight(10, 8)", "weight(3, 0)");
        edge.asked("told(11)", 2);
        edge.asked("told(12)", 1);
        edge.asked("told(13)", 0);
        edge.asked("told(19)", 0);
        edge.asked("told(20)", 8);
        String[] outside = {"-1", "8", "9", "10", "21", "MIN", "MAX"};
        for (String what : outside) {
            edge.refused("told(" + what + ")", OUTSIDE);
        }
    }
}
