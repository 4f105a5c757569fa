/** Promises 1 to 10. */
public final class PagesTest {
    private static final Due due = new Due();
    private static final String ALL_SIGNS = "123456789TAJQK*?";

    public static void main(String[] args) {
        newObject();
        sayAndWipe();
        faults();
        pages();
        beginnings();
        courts();
        allowed();
        weights();
        places();
        due.end();
    }

    private static void newObject() {
        WhereverBegun x = new WhereverBegun();
        due.is("told(0)", x.told(0), 0);
        due.is("told(1)", x.told(1), 1);
        due.is("told(2)", x.told(2), 1);
        due.is("told(3)", x.told(3), 5);
        due.is("told(4)", x.told(4), 1022);
        due.is("told(5)", x.told(5), 0);
        due.is("told(6)", x.told(6), 0);
        due.is("told(7)", x.told(7), 0);
        for (int c = 1; c <= 10; c++) {
            due.is("told weight", x.told(10 + c), c <= 3 ? 1 : 0);
        }
        due.is("place(0, 0)", x.place(0, 0), '1');
        due.is("place(0, 1)", x.place(0, 1), 1);
        due.is("out(0)", x.out(0), 0);
        due.is("streams()", x.streams(), 1);
        due.is("restore(0)", x.restore(0), -3);
        due.is("restore(1)", x.restore(1), -3);
    }

    private static void sayAndWipe() {
        WhereverBegun x = new WhereverBegun();
        due.is("wipe()", x.wipe(), 0);
        due.is("say(32)", x.say(32), -2);
        due.is("say(127)", x.say(127), -2);
        due.is("say(-1)", x.say(-1), -2);
        due.is("say(65536 + 49)", x.say(65536 + 49), -2);
        due.is("say(min)", x.say(Integer.MIN_VALUE), -2);
        due.is("say(33)", x.say(33), 1);
        due.is("say(126)", x.say(126), 2);
        for (int n = 3; n <= 48; n++) {
            due.is("say", x.say('1'), n);
        }
        due.is("say to a full pad", x.say('1'), -4);
        due.is("say no sign to a full pad", x.say(32), -2);
        due.is("told(0)", x.told(0), 48);
        due.is("wipe()", x.wipe(), 48);
        due.is("told(0)", x.told(0), 0);
        due.is("say", x.say('1'), 1);
    }

    private static void faultOf(String text, int want) {
        WhereverBegun x = new WhereverBegun();
        Due.say(x, text);
        due.is("fault of " + text, x.fault(), want);
        due.is("page of " + text, x.page(), want == -6 ? text.length() : -5);
        due.is("signs after page of " + text, x.told(0), want == -6 ? 0 : text.length());
        due.is("places after page of " + text, x.told(1), want == -6 ? text.length() : 1);
    }

    private static void faults() {
        faultOf("", 0);
        for (int sign = 33; sign <= 126; sign++) {
            faultOf("1" + (char) sign, ALL_SIGNS.indexOf(sign) >= 0 ? -6 : 1);
        }
        faultOf("0", 0);
        faultOf("****", -6);
        faultOf("*****", 4);
        faultOf("?????", -6);
        faultOf("?????1?", 6);
        faultOf("****?????", -6);
        faultOf("****?????*", 9);
        faultOf("*1*1*1*1*b", 8);
        faultOf("*1*1*1*b*1", 7);
        faultOf("1".repeat(40), -6);
        faultOf("1".repeat(41), 40);
        faultOf("1".repeat(48), 40);
        faultOf("1".repeat(40) + "x", 40);
        faultOf("1".repeat(39) + "xx", 39);
        faultOf("?".repeat(48), 5);
    }

    private static void pages() {
        WhereverBegun x = new WhereverBegun();
        due.is("page() of nothing", x.page(), -5);
        due.page(x, ALL_SIGNS);
        for (int p = 0; p < ALL_SIGNS.length(); p++) {
            due.is("place(" + p + ", 0)", x.place(p, 0), ALL_SIGNS.charAt(p));
        }
        due.is("told(5)", x.told(5), 1);
        due.is("told(6)", x.told(6), 1);
        due.is("fault() afterwards", x.fault(), 0);
        x.begin(7);
        x.court(3);
        x.allow(6);
        x.weight(9, 2);
        x.seen(0, 1);
        x.say('0');
        due.is("page() with a fault", x.page(), -5);
        due.is("beginnings stay", x.told(2), 7);
        due.is("sights stay", x.told(7), 1);
        due.is("signs stay", x.told(0), 1);
        due.page(x, "23");
        due.is("one beginning", x.told(2), 1);
        due.is("sights go", x.told(7), 0);
        due.is("court stays", x.told(3), 3);
        due.is("allowed stay", x.told(4), 6);
        due.is("weights stay", x.told(19), 2);
        due.is("place(2, 0) of a longer page before", x.place(2, 0), -1);
    }

    private static void beginnings() {
        WhereverBegun x = new WhereverBegun();
        due.is("begin(1)", x.begin(1), 1);
        due.is("begin(2) of one place", x.begin(2), -2);
        due.page(x, "1".repeat(12));
        due.is("begin(10)", x.begin(10), 1);
        due.is("begin(11)", x.begin(11), -2);
        due.is("begin(0)", x.begin(0), -2);
        due.is("begin(-1)", x.begin(-1), -2);
        due.is("begin(min)", x.begin(Integer.MIN_VALUE), -2);
        due.is("begin(max)", x.begin(Integer.MAX_VALUE), -2);
        due.is("begin(4)", x.begin(4), 10);
        due.is("told(2)", x.told(2), 4);
        due.page(x, "1*?");
        due.is("begin(3)", x.begin(3), 1);
        due.is("begin(4)", x.begin(4), -2);
        due.is("told(2)", x.told(2), 3);
    }

    private static void courts() {
        WhereverBegun x = new WhereverBegun();
        due.is("court(0)", x.court(0), -2);
        due.is("court(11)", x.court(11), -2);
        due.is("court(-5)", x.court(-5), -2);
        due.is("court(10)", x.court(10), 5);
        due.is("court(1)", x.court(1), 10);
        due.is("told(3)", x.told(3), 1);
    }

    private static void allowed() {
        WhereverBegun x = new WhereverBegun();
        int[] refused = {0, 1, 3, 2047, 2048, 2050, 4096, -1, -2, Integer.MIN_VALUE, Integer.MAX_VALUE};
        for (int counts : refused) {
            due.is("allow(" + counts + ")", x.allow(counts), -2);
        }
        due.is("told(4)", x.told(4), 1022);
        due.is("allow(2046)", x.allow(2046), 1022);
        due.is("allow(2)", x.allow(2), 2046);
        due.is("allow(1024)", x.allow(1024), 2);
        due.is("told(4)", x.told(4), 1024);
    }

    private static void weights() {
        WhereverBegun x = new WhereverBegun();
        due.is("weight(0, 99)", x.weight(0, 99), -1);
        due.is("weight(11, 0)", x.weight(11, 0), -1);
        due.is("weight(min, 0)", x.weight(Integer.MIN_VALUE, 0), -1);
        due.is("weight(4, -1)", x.weight(4, -1), -2);
        due.is("weight(4, 10)", x.weight(4, 10), -2);
        due.is("weight(4, max)", x.weight(4, Integer.MAX_VALUE), -2);
        due.is("weight(4, 9): 12 in all", x.weight(4, 9), 0);
        due.is("weight(10, 1): 13 in all", x.weight(10, 1), -2);
        due.is("weight(1, 1): as it is", x.weight(1, 1), 1);
        due.is("weight(1, 0)", x.weight(1, 0), 1);
        due.is("weight(10, 1)", x.weight(10, 1), 0);
        due.is("weight(4, 0)", x.weight(4, 0), 9);
        due.is("weight(2, 0)", x.weight(2, 0), 1);
        due.is("weight(3, 0)", x.weight(3, 0), 1);
        due.is("weight(10, 0): none left", x.weight(10, 0), -2);
        due.is("told(20)", x.told(20), 1);
        due.is("told(12)", x.told(12), 0);
        due.is("weight(10, 10): ten in all, but above nine", x.weight(10, 10), -2);
        due.is("weight(10, 9)", x.weight(10, 9), 1);
    }

    private static void places() {
        WhereverBegun x = new WhereverBegun();
        due.page(x, ALL_SIGNS);
        int[] counts = {1, 2, 3, 4, 5, 6, 7, 8, 9, 10, 1, 5, 5, 5, -6, -6};
        for (int p = 0; p < counts.length; p++) {
            due.is("place(" + p + ", 1)", x.place(p, 1), counts[p]);
        }
        x.court(9);
        due.is("a jack", x.place(11, 1), 9);
        due.is("a queen", x.place(12, 1), 9);
        due.is("a king", x.place(13, 1), 9);
        due.is("an ace", x.place(10, 1), 1);
        due.is("place(-1, 0)", x.place(-1, 0), -1);
        due.is("place(16, 9)", x.place(16, 9), -1);
        due.is("place(0, -1)", x.place(0, -1), -2);
        due.is("place(0, 2)", x.place(0, 2), -2);
        due.is("place(max, 0)", x.place(Integer.MAX_VALUE, 0), -1);
    }
}
