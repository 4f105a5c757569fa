/** Counts the answers that are not as due, and ends the test with 1 if there was one. */
final class Due {
    private int wrong = 0;
    private int asked = 0;

    void is(String call, long got, long want) {
        asked++;
        if (got != want) {
            wrong++;
            System.out.println(call + " answered " + got + ", due is " + want);
        }
    }

    void holds(String what, boolean so) {
        is(what, so ? 1 : 0, 1);
    }

    /** Makes the text the page; it has to be one. */
    void page(WhereverBegun x, String text) {
        x.wipe();
        for (int i = 0; i < text.length(); i++) {
            is("say(" + text.charAt(i) + ")", x.say(text.charAt(i)), i + 1);
        }
        is("page " + text, x.page(), text.length());
    }

    static void say(WhereverBegun x, String text) {
        for (int i = 0; i < text.length(); i++) {
            x.say(text.charAt(i));
        }
    }

    void fraction(String call, long upper, long lower, long wantUpper, long wantLower) {
        is(call + ", 0)", upper, wantUpper);
        is(call + ", 1)", lower, wantLower);
    }

    void end() {
        System.out.println(asked + " answers, " + wrong + " not as due");
        if (wrong != 0) {
            System.exit(1);
        }
    }
}
