/** How the tests by hand speak: what is due, and how a cave and its days come from a text. */
abstract class Due {
    /** Two beasts, three walls in a row, three visitors, three figures: most tests begin with it. */
    static final String CAVE = "lamp 20; odds 8; beast b; beast s; wall m; wall x of b pulls 3; wall y of s pulls 2;"
        + " way m x long 1; way x y long 2; way m y long 4;"
        + " visitor p self 5 at x; visitor q self 4 at m; visitor r self 9 at y;"
        + " figure f of b style 1 2; figure g of s style 3 2; figure h of b style 9 9; over g f; over h f;"
        + " follows b b weight 2; follows b s weight 3; follows s b weight 1;";

    /** Of which promise or sentence the tests that run now are. */
    static String subject = "";
    private static int wrong;

    static void promise(int number) {
        subject = "promise " + number;
    }

    static void due(long got, long want) {
        if (got != want) {
            wrong++;
            System.out.println(subject + ", line " + line() + ": " + got + ", due is " + want);
        }
    }

    /** The line of the test itself, not of what stands in this file. */
    private static int line() {
        for (StackTraceElement place : new Throwable().getStackTrace()) {
            if (place.getFileName() != null && place.getFileName().endsWith("Tests.java")) {
                return place.getLineNumber();
            }
        }
        return 0;
    }

    /** Tells whether all was as due; ends with exit code 1 if it was not. */
    static void tell(String allIsWell) {
        System.out.println(wrong == 0 ? allIsWell : wrong + " answers are not as due");
        if (wrong != 0) {
            System.exit(1);
        }
    }

    /** A call that is answered. */
    static void fine(BeastCave x, long got, long want) {
        due(got, want);
        due(x.status(), 0);
    }

    static void yes(BeastCave x, boolean got) {
        fine(x, got ? 1 : 0, 1);
    }

    /** A call that is refused. */
    static void no(BeastCave x, long got, int status) {
        due(got, -1);
        due(x.status(), status);
    }

    static void no(BeastCave x, boolean got, int status) {
        due(got ? 1 : 0, 0);
        due(x.status(), status);
    }

    static void fraction(BeastCave x, long top, long bottom) {
        due(x.top(), top);
        due(x.bottom(), bottom);
    }

    /** The text comes to the tape, 0s behind it up to twenty bytes; how many bytes the text itself has. */
    static int feed(BeastCave x, String text) {
        for (int i = 0; i < text.length(); i += 20) {
            int[] a = new int[5];
            for (int k = 0; k < 20; k++) {
                int c = i + k < text.length() ? text.charAt(i + k) & 255 : 0;
                a[k / 4] |= c << 8 * (3 - k % 4);
            }
            x.feed(a[0], a[1], a[2], a[3], a[4]);
        }
        return text.length();
    }

    static BeastCave of(String text) {
        BeastCave x = new BeastCave();
        x.cave(feed(x, text));
        due(x.status(), 0);
        return x;
    }

    static BeastCave of(String text, String days) {
        BeastCave x = of(text);
        x.days(feed(x, days));
        due(x.status(), 0);
        return x;
    }

    static void faultIs(BeastCave x, int kind, int place) {
        due(x.status(), 9);
        due(x.fault(0), kind);
        due(x.fault(1), place);
    }

    static void caveFault(String text, int kind, int place) {
        BeastCave x = new BeastCave();
        due(x.cave(feed(x, text)), -1);
        faultIs(x, kind, place);
    }

    /** At the place of the last word of the text, or at its end if that is a blank. */
    static void caveFault(String text, int kind) {
        caveFault(text, kind, lastPlace(text));
    }

    static void daysFault(String days, int kind, int place) {
        BeastCave x = of(CAVE);
        due(x.days(feed(x, days)), -1);
        faultIs(x, kind, place);
    }

    static void daysFault(String days, int kind) {
        daysFault(days, kind, lastPlace(days));
    }

    private static int lastPlace(String text) {
        return text.length() - text.substring(text.lastIndexOf(' ') + 1).length();
    }

    static String times(int n, String text) {
        return text.repeat(n);
    }

    /** A tray of just these numbers. */
    static void tray(BeastCave x, int tray, int sort, long... cells) {
        yes(x, x.tray(tray, sort, cells.length));
        for (int i = 0; i < cells.length; i++) {
            yes(x, x.write(tray, i, cells[i]));
        }
    }

    /** All that lived() tells; what it tells wrong is a fault of promise 56. */
    static void lived(BeastCave x, int missed, int minutes, int led, int turned, int left) {
        String was = subject;
        promise(56);
        int[] due = {missed, minutes, led, turned, left};
        for (int what = 0; what < 5; what++) {
            fine(x, x.lived(what), due[what]);
        }
        subject = was;
    }
}
