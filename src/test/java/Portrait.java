/**
 * All that an object tells of itself. Taking it uses the object up: the images are restored and the
 * pad becomes the page, so it is taken of one of two objects that were made by the same calls.
 */
final class Portrait {
    private static final int MOST_CALLS = 512;

    private final WhereverBegun x;
    private final StringBuilder text = new StringBuilder();
    private int calls;

    private Portrait(WhereverBegun x, int callsBefore) {
        this.x = x;
        this.calls = callsBefore;
    }

    static String of(WhereverBegun x, int callsBefore) {
        return new Portrait(x, callsBefore).taken();
    }

    private String taken() {
        tell("signs", x.told(0));
        tell("fault", x.fault());
        table();
        for (int n = 0; n < 2; n++) {
            int restored = x.restore(n);
            tell("image", restored);
            if (restored == 1) {
                table();
            }
        }
        int places = x.page();
        tell("page of the pad", places);
        if (places > 0) {
            signs(places);
        }
        if (calls > MOST_CALLS) {
            throw new IllegalStateException("more calls than the document speaks of: " + calls);
        }
        return text.toString();
    }

    private void table() {
        int[] told = new int[21];
        for (int what = 1; what <= 20; what++) {
            if (what < 8 || what > 10) {
                told[what] = x.told(what);
                tell("told", told[what]);
            }
        }
        signs(told[1]);
        tell("fits", x.fits());
        for (int k = 0; k < told[6]; k++) {
            for (int count = 1; count <= 3; count++) {
                tell("upper", x.drawn(k, count, 0));
                tell("lower", x.drawn(k, count, 1));
            }
        }
        // other orders of the page tell sights apart that this one does not
        for (int seed = 1; seed <= 4; seed++) {
            tell("shuffled", x.shuffle(seed));
            tell("fits", x.fits());
        }
    }

    private void signs(int places) {
        for (int p = 0; p < places; p++) {
            tell("sign", x.place(p, 0));
        }
    }

    private void tell(String what, long answer) {
        calls++;
        text.append(what).append(' ').append(answer).append(", ");
    }
}
