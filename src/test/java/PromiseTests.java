/** Each promise of the document by calls whose answers were worked out by hand: usual ones, edges, wrong ones. */
public final class PromiseTests extends Due {
    public static void main(String[] args) {
        objects();
        trays();
        tapeAndTexts();
        caveFaults();
        caveNames();
        whatIsTold();
        daysFaults();
        minutes();
        theLast();
        leading();
        wakingAndFilling();
        paintingAndComing();
        drawingAndRuling();
        aheadOfOne();
        aheadOfAll();
        ways();
        tours();
        layersAndLow();
        handsOfFigures();
        rowsOfBeasts();
        seen();
        games();
        flickers();
        copies();
        lives();
        livesAtTheirEdges();
        means();
        marks();
        tell("all promises are kept");
    }

    // ---- promises 1 to 4

    private static void objects() {
        promise(1);
        BeastCave x = new BeastCave();
        due(x.status(), 0);
        fraction(x, 0, 1);
        due(x.fault(0), -1);
        due(x.fault(1), -1);
        int[] first = {0, 0, 0, 0, 60, 4, 0, 0, 0, 0};
        for (int what = 0; what < first.length; what++) {
            fine(x, x.told(what), first[what]);
        }
        for (int t = 0; t < 4; t++) {
            no(x, x.read(t, 0), 2);
        }
        no(x, x.live(0), 6);
        no(x, x.mean(0, 1), 6);
        no(x, x.undo(), 6);
        no(x, x.lived(0), 6);
        no(x, x.cave(1), 1);
        due(x.feed(0, 0, 0, 0, 0), 20);

        promise(2);
        no(x, x.told(10), 1);
        due(x.status(), 1);
        x.top();
        x.bottom();
        x.feed(0, 0, 0, 0, 0);
        x.fault(0);
        x.fault(7);
        due(x.status(), 1);
        fine(x, x.told(4), 60);

        promise(3);
        yes(x, x.rule(8));
        yes(x, x.flicker(2, 1));
        due(x.top(), 3);
        no(x, x.flicker(13, 1), 1);
        due(x.top(), 3);
        promise(4);
        due(x.bottom(), 4);
        yes(x, x.flicker(2, 3));
        fraction(x, 0, 1);
    }

    // ---- promises 5 to 8

    private static void trays() {
        BeastCave x = new BeastCave();
        promise(5);
        no(x, x.tray(-1, 0, 1), 1);
        no(x, x.tray(4, 0, 1), 1);
        no(x, x.tray(0, -1, 1), 1);
        no(x, x.tray(0, 4, 1), 1);
        no(x, x.tray(0, 0, -1), 1);
        no(x, x.tray(0, 0, 61), 1);
        no(x, x.read(0, 0), 2);
        yes(x, x.tray(0, 3, 60));
        fine(x, x.read(0, 59), 0);
        yes(x, x.write(0, 59, 9));
        yes(x, x.tray(0, 3, 60));
        fine(x, x.read(0, 59), 0);
        yes(x, x.tray(1, 0, 0));
        no(x, x.read(1, 0), 3);

        yes(x, x.tray(2, 3, 2));
        yes(x, x.write(2, 0, 7));
        yes(x, x.write(2, 1, 8));
        yes(x, x.tray(1, 3, 60));
        yes(x, x.tray(3, 3, 60));
        fine(x, x.read(2, 0), 7);
        yes(x, x.tray(2, 3, 2));
        fine(x, x.read(2, 0), 0);
        fine(x, x.read(2, 1), 0);
        x = new BeastCave();
        yes(x, x.tray(0, 3, 60));

        promise(6);
        no(x, x.write(-1, 0, 1), 1);
        no(x, x.write(4, 0, 1), 1);
        no(x, x.write(3, -1, 1), 2);
        no(x, x.write(0, -1, 1), 3);
        no(x, x.write(0, 60, 1), 3);
        no(x, x.write(0, Integer.MAX_VALUE, 1), 3);
        no(x, x.write(0, Integer.MIN_VALUE, 1), 3);
        tray(x, 0, 0, 127, 128, 255, 256, -129);
        tray(x, 1, 1, 32767, 32768, 65535, -32769);
        tray(x, 2, 2, 2147483647L, 2147483648L, 4294967295L);
        tray(x, 3, 3, Long.MAX_VALUE, Long.MIN_VALUE);

        promise(7);
        long[][] cut = {{127, -128, -1, 0, 127}, {32767, -32768, -1, 32767}, {2147483647L, -2147483648L, -1},
            {Long.MAX_VALUE, Long.MIN_VALUE}};
        for (int t = 0; t < 4; t++) {
            for (int i = 0; i < cut[t].length; i++) {
                fine(x, x.read(t, i), cut[t][i]);
            }
        }
        no(x, x.read(-1, 0), 1);
        no(x, x.read(4, 0), 1);
        no(x, x.read(0, -1), 3);
        no(x, x.read(0, 5), 3);

        promise(8);
        tray(x, 0, 0, 1, 2, 3, 4, 5);
        tray(x, 1, 0, 9, 9, 9);
        yes(x, x.pour(0, 1, 1, 0, 2));
        fine(x, x.read(1, 0), 2);
        fine(x, x.read(1, 1), 3);
        fine(x, x.read(1, 2), 9);
        yes(x, x.pour(0, 0, 0, 1, 4));
        for (int i = 0; i < 5; i++) {
            fine(x, x.read(0, i), i == 0 ? 1 : i);
        }
        yes(x, x.pour(0, 1, 0, 0, 4));
        fine(x, x.read(0, 1), 2);
        fine(x, x.read(0, 4), 4);
        yes(x, x.pour(0, 5, 1, 3, 0));
        tray(x, 2, 2, -7, 8);
        tray(x, 3, 2, 1, 1, 1);
        yes(x, x.pour(2, 0, 3, 1, 2));
        fine(x, x.read(3, 0), 1);
        fine(x, x.read(3, 1), -7);
        fine(x, x.read(3, 2), 8);
        x = new BeastCave();
        yes(x, x.tray(0, 0, 3));
        yes(x, x.tray(1, 1, 3));
        yes(x, x.tray(2, 0, 2));
        no(x, x.pour(-1, 0, 0, 0, 1), 1);
        no(x, x.pour(0, 0, 4, 0, 1), 1);
        no(x, x.pour(3, -1, 1, 9, 9), 1);
        no(x, x.pour(3, 0, 1, -1, 9), 1);
        no(x, x.pour(3, 0, 1, 0, -1), 1);
        no(x, x.pour(3, 0, 1, 9, 9), 2);
        no(x, x.pour(1, 9, 3, 0, 9), 2);
        no(x, x.pour(0, 9, 1, 0, 9), 8);
        no(x, x.pour(0, 2, 2, 0, 2), 3);
        no(x, x.pour(0, 0, 2, 0, 3), 3);
        no(x, x.pour(0, Integer.MAX_VALUE, 2, 0, Integer.MAX_VALUE), 3);
        no(x, x.pour(0, 0, 2, Integer.MAX_VALUE, 1), 3);
    }

    // ---- promises 9 to 12

    private static void tapeAndTexts() {
        promise(9);
        BeastCave x = new BeastCave();
        for (int i = 1; i <= 45; i++) {
            due(x.feed(0x20202020, 0x20202020, 0x20202020, 0x20202020, 0x20202020), 20 * i);
        }
        due(x.feed(0, 0, 0, 0, 0), -1);
        fine(x, x.cave(900), 0);
        due(x.feed(0x62656173, 0x7420613b, -1, -1, -1), 20);
        fine(x, x.cave(8), 0);
        fine(x, x.told(0), 1);

        promise(10);
        x = of(CAVE);
        fine(x, x.told(2), 3);
        no(x, x.cave(1), 1);
        feed(x, "lamp 3; ");
        no(x, x.cave(-1), 1);
        no(x, x.cave(21), 1);
        fine(x, x.minute(6), 2);
        x.days(0);
        feed(x, "lamp 3; ");
        fine(x, x.cave(7), 0);
        fine(x, x.told(4), 3);
        fine(x, x.told(5), 4);
        fine(x, x.told(6), 0);
        fine(x, x.told(1), 0);
        no(x, x.live(0), 6);
        no(x, x.cave(1), 1);
        fine(x, x.cave(0), 0);
        fine(x, x.told(4), 60);
        x = of(CAVE);
        fine(x, x.minute(2), 1);
        no(x, x.cave(feed(x, "lamp 3")), 9);
        fine(x, x.told(4), 18);
        fine(x, x.told(2), 3);
        no(x, x.cave(1), 1);
        x = of(CAVE, "stop;");
        no(x, x.cave(feed(x, "lamp 3")), 9);
        fine(x, x.live(0), 1);

        promise(11);
        x = of(CAVE);
        fine(x, x.days(feed(x, "minute 3; lead p y; wake r; fill 9; any; when dark; stop; end; loop 2; end;")), 8);
        no(x, x.days(1), 1);
        no(x, x.days(-1), 1);
        due(x.days(feed(x, times(300, " "))), 0);
        due(feed(x, times(301, " ")), 301);
        no(x, x.days(301), 1);
        no(x, x.days(321), 1);
        fine(x, x.days(300), 0);
        fine(x, x.live(0), 0);
        x = of(CAVE, "minute 1;");
        no(x, x.days(feed(x, "minute 1")), 9);
        no(x, x.days(1), 1);
        fine(x, x.live(0), 1);
        no(x, x.days(feed(x, "lead p z;")), 9);

        promise(12);
        x = new BeastCave();
        due(x.fault(0), -1);
        x.cave(feed(x, "lamp lamp;"));
        due(x.fault(0), 2);
        due(x.fault(1), 5);
        due(x.fault(2), -1);
        due(x.fault(-1), -1);
        no(x, x.cave(9), 1);
        due(x.fault(0), 2);
        x.days(feed(x, "minute 1;"));
        due(x.fault(0), 0);
        due(x.fault(1), -1);
        x.days(feed(x, "wake p;"));
        due(x.fault(0), 3);
        due(x.fault(1), 5);
    }

    private static void caveFaults() {
        promise(10);
        // 1: no token begins so
        caveFault("lamp A", 1);
        caveFault("Lamp", 1, 0);
        caveFault("lamp\t3;", 1, 4);
        caveFault("lamp 12345;", 1, 5);
        caveFault("12345", 1, 0);
        caveFault("beast a 00001", 1);
        caveFault("beast \u00e1;", 1, 6);
        caveFault("wall w; \0", 1, 8);
        // 2: it can't stand there
        caveFault("lamp", 2, 4);
        caveFault("lamp ", 2, 5);
        caveFault("lamp 3", 2, 6);
        caveFault("lamp 3 \n", 2, 8);
        caveFault(";", 2, 0);
        caveFault("cave", 2, 0);
        caveFault("7", 2, 0);
        caveFault("lampa 3;", 2, 0);
        caveFault("lamp3 3", 2);
        caveFault("lamp x", 2);
        caveFault("lamp <", 2);
        caveFault("beast 3", 2);
        caveFault("beast abcdefghi;", 2, 6);
        caveFault("beast stop", 2);
        caveFault("beast a, ", 1, 7);
        caveFault("beast a b", 2);
        caveFault("beast a >", 2);
        caveFault("beast b; wall w pulls", 2);
        caveFault("beast b; wall w of b 3", 2);
        caveFault("beast b; wall w of b pulls ;", 2);
        caveFault("wall w; wall x; way w x 3", 2);
        caveFault("wall w; visitor v at", 2);
        caveFault("wall w; visitor v self 3 w", 2);
        caveFault("beast b; figure f style", 2);
        caveFault("beast b; figure f of b 3", 2);
        caveFault("beast b; figure f of b style 3 ;", 2);
        caveFault("beast b; follows b b 3", 2);
        caveFault("minute 3;", 2, 0);
        caveFault("end", 2, 0);
        String[] reserved = ("lamp odds beast wall of pulls way long visitor self at figure style over follows weight minute"
            + " lead wake fill any when turned dark loop end stop").split(" ");
        for (String word : reserved) {
            caveFault("beast " + word, 2, 6);
        }
        // 3: names
        caveFault("beast b; beast b", 3);
        caveFault("beast b; wall b", 3);
        caveFault("wall w; visitor w", 3);
        caveFault("beast b; figure b", 3);
        caveFault("wall w of b", 3);
        caveFault("wall w; wall x of w", 3);
        caveFault("beast b; way b", 3);
        caveFault("wall w; way w x", 3);
        caveFault("visitor v self 3 at v", 3);
        caveFault("beast b; figure f of f", 3);
        caveFault("beast b; over b", 3);
        caveFault("beast b; figure f of b style 1 1; over f g", 3);
        caveFault("wall w; follows w", 3);
        caveFault("beast b; follows b c", 3);
        // 4: numbers
        caveFault("lamp 100", 4);
        caveFault("odds 17", 4);
        caveFault("beast b; wall w of b pulls 0", 4);
        caveFault("beast b; wall w of b pulls 10", 4);
        caveFault("wall w; wall x; way w x long 0", 4);
        caveFault("wall w; wall x; way w x long 10", 4);
        caveFault("wall w; visitor v self 0", 4);
        caveFault("wall w; visitor v self 61", 4);
        caveFault("beast b; figure f of b style 10", 4);
        caveFault("beast b; figure f of b style 9 10", 4);
        caveFault("beast b; follows b b weight 0", 4);
        caveFault("beast b; follows b b weight 10", 4);
        // 5: told already, itself
        caveFault("lamp 3; lamp", 5);
        caveFault("odds 3; lamp 3; odds", 5);
        caveFault("wall w; way w w", 5);
        caveFault("beast b; figure f of b style 1 1; over f f", 5);
        // 6: one too many
        caveFault("beast a; beast b; beast c; beast d; beast e; beast", 6);
        caveFault("wall a; wall b; wall c; wall d; wall e; wall f; wall g; wall", 6);
        caveFault("wall a; wall b; " + times(10, "way a b long 1; ") + "way", 6);
        caveFault("wall w; visitor a self 1 at w; visitor b self 1 at w; visitor c self 1 at w; visitor d self 1 at w;"
            + " visitor e self 1 at w; visitor f self 1 at w; visitor", 6);
        StringBuilder figures = new StringBuilder("beast b; ");
        for (char c = 'm'; c < 'u'; c++) {
            figures.append("figure ").append(c).append(" of b style 0 0; ");
        }
        caveFault(figures + "figure", 6);
        of(figures.toString());
    }

    private static void caveNames() {
        promise(10);
        BeastCave x = of("beast\nabcdefgh;wall w of abcdefgh pulls 9;visitor lampx self 0060 at w;lamp 0;odds 0;");
        fine(x, x.told(2), 1);
        fine(x, x.told(4), 0);
        fine(x, x.told(5), 0);
        fine(x, x.visitor(0, 0), 60);
        fine(x, x.wall(0, 1), 9);
        fine(x, x.told(7), 0);
        x = of("odds 5;beast a;beast b;wall w;wall x;wall y of b pulls 1;way w x long 9;way x w long 7;"
            + "figure f of a style 0 9;figure g of b style 1 1;over f g;over f g;over g f;follows b b weight 9;"
            + "follows a b weight 3;follows a b weight 5;");
        fine(x, x.weight(0, 1), 5);
        fine(x, x.weight(1, 1), 9);
        fine(x, x.weight(1, 0), 0);
        fine(x, x.figure(0, 3), 2);
        fine(x, x.figure(1, 3), 1);
        fine(x, x.layers(), 0);
        fine(x, x.far(0, 1), 7);
        fine(x, x.told(5), 5);
        fine(x, x.told(4), 60);
        fine(x, x.told(7), 3);
    }

    private static void daysFaults() {
        promise(11);
        // 1, 2: tokens
        daysFault("minute A", 1);
        daysFault("minute 00001", 1);
        daysFault("any; ?", 1);
        daysFault("minute", 2, 6);
        daysFault("minute 3", 2, 8);
        daysFault("end;", 2, 0);
        daysFault("when dark;", 2, 10);
        daysFault("loop 3; minute 1; ", 2, 18);
        daysFault("when dark; end", 2, 14);
        daysFault("when dark; end; end", 2);
        daysFault("any 3", 2);
        daysFault("stop p", 2);
        daysFault("lamp 3;", 2, 0);
        daysFault("3", 2, 0);
        daysFault("minute p", 2);
        daysFault("fill ;", 2);
        daysFault("loop p", 2);
        daysFault("wake 3", 2);
        daysFault("wake stop", 2);
        daysFault("wake abcdefghi", 2);
        daysFault("lead p 3", 2);
        daysFault("when p", 2);
        daysFault("when dark p", 2);
        daysFault("when self p 3", 2);
        daysFault("when self p ; 3", 2, 12);
        daysFault("when self p < p", 2);
        daysFault("when at p at", 2);
        // 3: names
        daysFault("wake z", 3);
        daysFault("wake m", 3);
        daysFault("lead x", 3);
        daysFault("lead p q", 3);
        daysFault("when turned f", 3);
        daysFault("when at m", 3);
        daysFault("when at p p", 3);
        daysFault("when self b", 3);
        // 4: numbers
        daysFault("minute 0", 4);
        daysFault("minute 61", 4);
        daysFault("fill 0", 4);
        daysFault("fill 100", 4);
        daysFault("loop 0", 4);
        daysFault("loop 100", 4);
        daysFault("when self p < 100", 4);
        BeastCave x = of(CAVE);
        fine(x, x.days(feed(x, "minute 60;minute 1;fill 1;fill 99;loop 1;end;loop 99;end;when self p>0;end;"
            + "when self p = 99;end;when self p<0;end;")), 9);
        // 6, 7: too many, too deep
        daysFault(times(30, "any; ") + "any", 6);
        fine(x, x.days(feed(x, times(14, "when dark;end;") + times(16, "any;"))), 30);
        daysFault(times(14, "when dark;end;") + times(16, "any;") + " stop", 6);
        daysFault("when dark; loop 2; when dark; loop", 7);
        daysFault("loop 2; loop 2; loop 2; when", 7);
        fine(x, x.days(feed(x, "when dark;loop 2;when dark;end;when turned p;stop;end;end;end;loop 1;end;")), 6);
        daysFault(times(27, "any;") + "loop 2;loop 2;loop 2; loop", 6);
    }

    // ---- promises 13 to 19

    private static void whatIsTold() {
        promise(13);
        BeastCave x = of(CAVE);
        int[] first = {2, 3, 3, 3, 20, 8, 0, 1, 0, 0};
        for (int what = 0; what < first.length; what++) {
            fine(x, x.told(what), first[what]);
        }
        fine(x, x.minute(2), 1);
        fine(x, x.lead(1, 1), 1);
        int[] then = {2, 3, 3, 3, 18, 8, 2, 1, 1, 2};
        for (int what = 0; what < then.length; what++) {
            fine(x, x.told(what), then[what]);
        }
        no(x, x.told(-1), 1);
        no(x, x.told(10), 1);

        promise(14);
        fine(x, x.wall(1, 0), 0);
        fine(x, x.wall(1, 1), 3);
        fine(x, x.wall(2, 0), 1);
        fine(x, x.wall(2, 1), 2);
        no(x, x.wall(0, 0), 6);
        no(x, x.wall(0, 1), 6);
        no(x, x.wall(0, 2), 1);
        no(x, x.wall(1, -1), 1);
        no(x, x.wall(3, 0), 1);
        no(x, x.wall(-1, 0), 1);

        promise(15);
        int[] p = {5, 1, 0, 6};
        int[] q = {4, 1, 1, 0};
        for (int what = 0; what < 4; what++) {
            fine(x, x.visitor(0, what), p[what]);
            fine(x, x.visitor(1, what), q[what]);
        }
        no(x, x.visitor(0, 4), 1);
        no(x, x.visitor(0, -1), 1);
        no(x, x.visitor(3, 0), 1);
        no(x, x.visitor(-1, 0), 1);

        promise(16);
        fine(x, x.measure(0, 0), 6);
        fine(x, x.measure(0, 1), 0);
        fine(x, x.measure(2, 1), 4);
        no(x, x.measure(0, 2), 1);
        no(x, x.measure(0, -1), 1);
        no(x, x.measure(3, 0), 1);

        promise(18);
        int[][] figures = {{0, 1, 2, 0}, {1, 3, 2, 1}, {0, 9, 9, 1}};
        for (int f = 0; f < 3; f++) {
            for (int what = 0; what < 4; what++) {
                fine(x, x.figure(f, what), figures[f][what]);
            }
        }
        no(x, x.figure(0, 4), 1);
        no(x, x.figure(0, -1), 1);
        no(x, x.figure(3, 0), 1);

        promise(19);
        fine(x, x.weight(0, 0), 2);
        fine(x, x.weight(0, 1), 3);
        fine(x, x.weight(1, 0), 1);
        fine(x, x.weight(1, 1), 0);
        no(x, x.weight(2, 0), 1);
        no(x, x.weight(0, -1), 1);

        promise(17);
        fine(x, x.who(0), 0);
        no(x, x.who(2), 6);
        no(x, x.who(3), 1);
        x = of("beast b;beast s;wall w of s pulls 5;visitor v self 3 at w;visitor u self 4 at w;");
        fine(x, x.minute(1), 2);
        fine(x, x.who(0), 1);
        yes(x, x.paint(0, 0, 4));
        fine(x, x.minute(1), 1);
        fine(x, x.who(0), 0);
        no(x, x.who(1), 6);
    }

    // ---- promises 20 to 29

    private static void minutes() {
        promise(20);
        BeastCave x = of(CAVE);
        no(x, x.minute(0), 1);
        no(x, x.minute(-1), 1);
        no(x, x.minute(241), 1);
        fine(x, x.minute(1), 0);
        fine(x, x.minute(1), 1);
        fine(x, x.minute(3), 2);
        fine(x, x.minute(15), 2);
        fine(x, x.told(4), 0);
        fine(x, x.measure(0, 0), 60);
        fine(x, x.measure(2, 1), 40);
        fine(x, x.minute(1), 2);
        fine(x, x.told(4), 0);
        fine(x, x.measure(0, 0), 59);
        for (int i = 0; i < 41; i++) {
            fine(x, x.minute(240), 0);
        }
        fine(x, x.told(6), 9861);
        no(x, x.minute(139), 4);
        fine(x, x.minute(138), 0);
        fine(x, x.told(6), 9999);
        no(x, x.minute(1), 4);
        no(x, x.minute(241), 1);
        fine(x, x.fill(5), 5);
        promise(30);
        fine(x, x.measureIn(0, 0, 5), 15);

        promise(20);
        x = of("lamp 99;beast b;beast s;wall w of b pulls 9;visitor v self 60 at w;");
        fine(x, x.minute(6), 0);
        fine(x, x.minute(1), 1);
        fine(x, x.minute(4), 1);
        fine(x, x.measure(0, 0), 99);
        yes(x, x.paint(0, 1, 2));
        fine(x, x.minute(1), 1);
        fine(x, x.measure(0, 0), 98);
        fine(x, x.measure(0, 1), 2);
        x = of("lamp 1;beast b;wall w of b pulls 1;visitor v self 1 at w;");
        fine(x, x.minute(1), 0);
        fine(x, x.measure(0, 0), 1);
        fine(x, x.minute(1), 0);
        fine(x, x.measure(0, 0), 0);
    }

    /** The last of all that there can be. */
    private static void theLast() {
        StringBuilder text = new StringBuilder("beast a;beast b;beast c;beast d;beast e;");
        for (char c = 'f'; c < 'm'; c++) {
            text.append("wall ").append(c).append(" of e pulls 9;");
        }
        for (char c = 'm'; c < 's'; c++) {
            text.append("visitor ").append(c).append(" self 17 at l;");
        }
        for (char c = 's'; c < '{'; c++) {
            text.append("figure ").append(c).append(" of e style 9 9;");
        }
        promise(10);
        BeastCave x = of(text + "over z y;", "when at r f;end;lead r f;when turned r;wake r;end;");
        promise(20);
        fine(x, x.minute(2), 6);
        promise(17);
        fine(x, x.who(5), 4);
        promise(16);
        fine(x, x.measure(5, 4), 18);
        promise(18);
        fine(x, x.figure(7, 0), 4);
        fine(x, x.figure(7, 3), 64);
        promise(13);
        fine(x, x.told(8), 63);
        promise(14);
        fine(x, x.wall(6, 0), 4);
        promise(22);
        fine(x, x.wake(5), 9);
        fine(x, x.wake(0), 9);
        fine(x, x.measure(0, 4), 9);
        promise(31);
        fine(x, x.whoIn(5, 1), 4);
        fine(x, x.whoIn(5, 58), 4);
        promise(51);
        fine(x, x.game(5, 1), -1);
        promise(34);
        fine(x, x.safe(5, 6), 0);
        fine(x, x.wake(5), 4);
        fine(x, x.safe(5, 6), 1);
        promise(25);
        fine(x, x.scrub(6), 4);
        promise(13);
        fine(x, x.told(7), 64);
        promise(20);
        fine(x, x.minute(1), 0);
        promise(55);
        fine(x, x.live(0), 3);
        lived(x, 1, 0, 0, 0, 0);
    }

    private static void leading() {
        promise(21);
        BeastCave x = of(CAVE);
        fine(x, x.minute(1), 0);
        fine(x, x.lead(0, 0), 1);
        fine(x, x.visitor(0, 1), 0);
        fine(x, x.visitor(0, 2), 1);
        no(x, x.lead(0, 1), 7);
        fine(x, x.minute(1), 0);
        fine(x, x.visitor(0, 2), 0);
        fine(x, x.measure(0, 0), 2);
        fine(x, x.minute(1), 0);
        fine(x, x.measure(0, 0), 1);
        fine(x, x.lead(0, 2), 4);
        fine(x, x.minute(3), 1);
        fine(x, x.visitor(0, 2), 1);
        fine(x, x.minute(1), 1);
        fine(x, x.visitor(0, 2), 0);
        fine(x, x.measure(0, 1), 0);
        fine(x, x.minute(1), 1);
        fine(x, x.measure(0, 1), 2);
        no(x, x.lead(2, 1), 7);
        no(x, x.lead(0, 2), 7);
        no(x, x.lead(3, 0), 1);
        no(x, x.lead(-1, 0), 1);
        no(x, x.lead(0, 3), 1);
        no(x, x.lead(0, -1), 1);
        x = of("wall a;wall b;wall c;way a b long 5;way b a long 3;way a b long 4;visitor v self 1 at a;");
        no(x, x.lead(0, 2), 7);
        no(x, x.lead(0, 0), 7);
        fine(x, x.lead(0, 1), 3);
        no(x, x.lead(0, 0), 7);
        fine(x, x.minute(3), 0);
        fine(x, x.lead(0, 0), 3);
    }

    private static void wakingAndFilling() {
        promise(22);
        BeastCave x = of(CAVE);
        fine(x, x.minute(3), 1);
        fine(x, x.wake(0), 4);
        fine(x, x.measure(0, 0), 4);
        no(x, x.who(0), 6);
        fine(x, x.lead(0, 2), 2);
        fine(x, x.wake(0), 2);
        fine(x, x.wake(0), 1);
        fine(x, x.wake(0), 0);
        no(x, x.wake(0), 7);
        no(x, x.wake(1), 7);
        no(x, x.wake(3), 1);
        no(x, x.wake(-1), 1);
        x = of("beast b;beast s;wall w of b pulls 7;visitor v self 9 at w;");
        fine(x, x.minute(1), 0);
        yes(x, x.paint(0, 1, 9));
        fine(x, x.minute(1), 0);
        fine(x, x.wake(0), 4);
        fine(x, x.measure(0, 0), 3);

        promise(23);
        x = of(CAVE);
        no(x, x.fill(0), 1);
        no(x, x.fill(100), 1);
        no(x, x.fill(-1), 1);
        for (int i = 1; i <= 9; i++) {
            fine(x, x.fill(99), 20 + 99 * i);
        }
        no(x, x.fill(89), 4);
        fine(x, x.told(4), 911);
        fine(x, x.fill(88), 999);
        no(x, x.fill(1), 4);
        no(x, x.fill(100), 1);
        x = of("lamp 0;beast b;wall w of b pulls 2;visitor v self 9 at w;");
        fine(x, x.minute(1), 0);
        fine(x, x.measure(0, 0), 0);
        fine(x, x.fill(1), 1);
        fine(x, x.minute(2), 0);
        fine(x, x.measure(0, 0), 1);
    }

    private static void paintingAndComing() {
        promise(24);
        BeastCave x = of(CAVE);
        yes(x, x.paint(0, 1, 9));
        fine(x, x.wall(0, 0), 1);
        fine(x, x.wall(0, 1), 9);
        fine(x, x.told(7), 0);
        yes(x, x.paint(1, 1, 1));
        fine(x, x.wall(1, 0), 1);
        no(x, x.paint(3, 0, 1), 1);
        no(x, x.paint(-1, 0, 1), 1);
        no(x, x.paint(0, 2, 1), 1);
        no(x, x.paint(0, -1, 1), 1);
        no(x, x.paint(0, 0, 0), 1);
        no(x, x.paint(0, 0, 10), 1);
        fine(x, x.wall(0, 1), 9);

        promise(25);
        x = of(CAVE);
        fine(x, x.scrub(2), 1);
        fine(x, x.told(7), 5);
        no(x, x.wall(2, 0), 6);
        no(x, x.scrub(2), 7);
        no(x, x.scrub(0), 7);
        no(x, x.scrub(3), 1);
        no(x, x.scrub(-1), 1);
        fine(x, x.minute(9), 1);
        fine(x, x.measure(2, 1), 0);

        promise(26);
        x = of(CAVE);
        fine(x, x.come(60, 2), 3);
        int[] told = {60, 2, 0, 0};
        for (int what = 0; what < 4; what++) {
            fine(x, x.visitor(3, what), told[what]);
        }
        fine(x, x.minute(3), 1);
        fine(x, x.measure(3, 1), 6);
        no(x, x.come(0, 0), 1);
        no(x, x.come(61, 0), 1);
        no(x, x.come(1, 3), 1);
        no(x, x.come(1, -1), 1);
        fine(x, x.come(1, 1), 4);
        fine(x, x.measure(4, 0), 0);
        fine(x, x.come(1, 0), 5);
        no(x, x.come(1, 0), 4);
        no(x, x.come(61, 0), 1);
        fine(x, x.told(2), 6);
    }

    private static void drawingAndRuling() {
        promise(27);
        BeastCave x = of(CAVE);
        fine(x, x.draw(1, 0, 9), 3);
        int[] told = {1, 0, 9, 0};
        for (int what = 0; what < 4; what++) {
            fine(x, x.figure(3, what), told[what]);
        }
        no(x, x.draw(2, 0, 0), 1);
        no(x, x.draw(-1, 0, 0), 1);
        no(x, x.draw(0, 10, 0), 1);
        no(x, x.draw(0, 0, 10), 1);
        no(x, x.draw(0, -1, 0), 1);
        no(x, x.draw(0, 0, -1), 1);
        for (int i = 4; i < 8; i++) {
            fine(x, x.draw(0, 9, 0), i);
        }
        no(x, x.draw(0, 0, 0), 4);
        no(x, x.draw(2, 0, 0), 1);

        promise(28);
        x = of(CAVE);
        yes(x, x.cover(2, 1));
        fine(x, x.figure(2, 3), 3);
        no(x, x.cover(2, 1), 7);
        no(x, x.cover(1, 0), 7);
        no(x, x.cover(0, 0), 1);
        no(x, x.cover(3, 0), 1);
        no(x, x.cover(0, 3), 1);
        no(x, x.cover(0, -1), 1);
        yes(x, x.cover(0, 1));
        fine(x, x.figure(0, 3), 2);
        fine(x, x.draw(0, 0, 0), 3);
        fine(x, x.figure(3, 3), 0);

        promise(29);
        yes(x, x.rule(16));
        fine(x, x.told(5), 16);
        yes(x, x.rule(0));
        fine(x, x.told(5), 0);
        no(x, x.rule(17), 1);
        no(x, x.rule(-1), 1);
        fine(x, x.told(5), 0);
    }

    // ---- promises 30 to 34

    private static void aheadOfOne() {
        promise(30);
        BeastCave x = of(CAVE);
        fine(x, x.measureIn(0, 0, 0), 0);
        fine(x, x.measureIn(0, 0, 20), 60);
        fine(x, x.measureIn(0, 0, 21), 59);
        fine(x, x.measureIn(0, 0, 200), 0);
        fine(x, x.measureIn(0, 1, 20), 0);
        no(x, x.measureIn(0, 0, 201), 1);
        no(x, x.measureIn(0, 0, -1), 1);
        no(x, x.measureIn(0, 2, 0), 1);
        no(x, x.measureIn(3, 0, 0), 1);
        fine(x, x.told(6), 0);
        fine(x, x.told(4), 20);
        fine(x, x.minute(1), 0);
        fine(x, x.lead(0, 0), 1);
        fine(x, x.measureIn(0, 0, 1), 2);
        fine(x, x.lead(1, 1), 1);
        fine(x, x.measureIn(1, 0, 1), 0);
        fine(x, x.measureIn(1, 0, 2), 3);
        fine(x, x.visitor(1, 2), 1);

        promise(31);
        x = of(CAVE);
        no(x, x.whoIn(0, 1), 6);
        fine(x, x.whoIn(0, 2), 0);
        fine(x, x.whoIn(0, 74), 0);
        no(x, x.whoIn(0, 75), 6);
        no(x, x.whoIn(2, 4), 6);
        fine(x, x.whoIn(2, 5), 1);
        no(x, x.whoIn(0, 200), 6);
        no(x, x.whoIn(0, 201), 1);
        no(x, x.whoIn(0, -1), 1);
        no(x, x.whoIn(3, 0), 1);

        promise(32);
        fine(x, x.turnIn(0), 2);
        fine(x, x.turnIn(2), 5);
        no(x, x.turnIn(1), 6);
        no(x, x.turnIn(3), 1);
        no(x, x.turnIn(-1), 1);
        fine(x, x.minute(2), 1);
        fine(x, x.turnIn(0), 0);
        fine(x, x.turnIn(2), 3);

        promise(34);
        no(x, x.safe(0, 0), 6);
        fine(x, x.safe(0, 1), 0);
        fine(x, x.safe(0, 2), 0);
        x = of(CAVE);
        fine(x, x.safe(0, 1), 1);
        fine(x, x.safe(0, 2), 2);
        fine(x, x.safe(1, 1), 1);
        fine(x, x.safe(2, 1), 3);
        no(x, x.safe(0, 0), 6);
        no(x, x.safe(3, 0), 1);
        no(x, x.safe(0, 3), 1);
        no(x, x.safe(0, -1), 1);
        yes(x, x.paint(1, 0, 9));
        fine(x, x.safe(0, 1), 0);
        x = of("lamp 0;beast b;wall w of b pulls 1;visitor v self 60 at w;");
        fine(x, x.safe(0, 0), 60);
    }

    private static void aheadOfAll() {
        promise(33);
        BeastCave x = of(CAVE);
        fine(x, x.freeIn(), 0);
        fine(x, x.minute(2), 1);
        fine(x, x.freeIn(), 73);
        fine(x, x.told(6), 2);
        x = of("lamp 99;beast b;wall w of b pulls 9;visitor v self 1 at w;");
        fine(x, x.minute(1), 1);
        fine(x, x.freeIn(), 196);
        fine(x, x.fill(4), 102);
        fine(x, x.freeIn(), 200);
        fine(x, x.fill(1), 103);
        no(x, x.freeIn(), 6);
        x = new BeastCave();
        fine(x, x.freeIn(), 0);
    }

    // ---- promises 35 to 38

    private static void ways() {
        promise(35);
        BeastCave x = of(CAVE);
        fine(x, x.far(0, 2), 3);
        fine(x, x.far(2, 0), 3);
        fine(x, x.far(0, 1), 1);
        fine(x, x.far(1, 1), 0);
        no(x, x.far(3, 0), 1);
        no(x, x.far(0, 3), 1);
        no(x, x.far(-1, 0), 1);
        x = of("wall a;wall b;wall c;wall d;wall e;way d b long 2;way b a long 9;way a c long 9;way c d long 1;");
        fine(x, x.far(0, 3), 10);
        fine(x, x.far(0, 1), 9);
        fine(x, x.far(2, 1), 3);
        no(x, x.far(0, 4), 6);
        fine(x, x.far(4, 4), 0);

        promise(36);
        fine(x, x.near(0), 6);
        fine(x, x.near(3), 6);
        fine(x, x.near(4), 0);
        no(x, x.near(5), 1);
        no(x, x.near(-1), 1);
    }

    private static void tours() {
        promise(37);
        BeastCave x = of(CAVE);
        fine(x, x.tour(0, 6, 1), 4);
        no(x, x.tour(0, 6, 2), 6);
        fine(x, x.tour(0, 1, 3), 4);
        fine(x, x.tour(0, 0, 1), 0);
        fine(x, x.tour(1, 7, 1), 6);
        no(x, x.tour(0, 8, 1), 1);
        no(x, x.tour(0, -1, 1), 1);
        no(x, x.tour(0, 1, 0), 1);
        no(x, x.tour(0, 1, 10), 1);
        no(x, x.tour(3, 1, 1), 1);
        fine(x, x.lead(1, 1), 1);
        no(x, x.tour(1, 0, 1), 7);
        fine(x, x.minute(2), 1);
        no(x, x.tour(0, 1, 1), 7);
        no(x, x.tour(0, 8, 1), 1);
        x = of("lamp 0;beast b;wall x of b pulls 3;wall y of b pulls 3;way x y long 1;"
            + "visitor u self 4 at x;visitor v self 5 at x;");
        no(x, x.tour(0, 3, 1), 6);
        fine(x, x.tour(1, 3, 1), 3);
        x = of("beast b;wall x of b pulls 3;wall y of b pulls 3;wall z;way x y long 2;visitor u self 4 at x;");
        fine(x, x.tour(0, 3, 1), 4);
        no(x, x.tour(0, 4, 1), 6);
        x = of("wall a;wall b;wall c;wall d;wall e;wall f;wall g;way a b long 1;way b c long 1;way c d long 1;"
            + "way d e long 1;way e f long 1;way f g long 1;visitor v self 1 at c;");
        fine(x, x.tour(0, 31, 2), 16);
        fine(x, x.tour(0, 93, 9), 45 + 2 + 6);
        no(x, x.tour(0, 63, 1), 1);
        promise(38);
        int[] order = {0, 1, 2, 3, 4};
        for (int k = 0; k < 5; k++) {
            fine(x, x.tourAt(0, 31, 2, k), order[k]);
        }
        no(x, x.tourAt(0, 31, 2, 5), 6);
        no(x, x.tourAt(0, 63, 2, 0), 1);

        x = of(CAVE);
        fine(x, x.tourAt(0, 6, 1, 0), 1);
        fine(x, x.tourAt(0, 6, 1, 1), 2);
        no(x, x.tourAt(0, 6, 1, 2), 6);
        no(x, x.tourAt(0, 6, 2, 0), 6);
        no(x, x.tourAt(0, 6, 1, -1), 1);
        no(x, x.tourAt(0, 0, 1, 0), 6);
        no(x, x.tourAt(0, 8, 1, 0), 1);
        fine(x, x.lead(1, 1), 1);
        no(x, x.tourAt(1, 1, 1, 9), 7);
        no(x, x.tourAt(1, 1, 1, -1), 1);
        x = of("wall a;wall b;wall c;way a b long 2;way a c long 2;way b c long 3;visitor v self 5 at a;");
        fine(x, x.tour(0, 6, 1), 7);
        fine(x, x.tourAt(0, 6, 1, 0), 1);
        fine(x, x.tourAt(0, 6, 1, 1), 2);
    }

    // ---- promises 39 to 47

    private static void layersAndLow() {
        promise(39);
        BeastCave x = of(CAVE);
        fine(x, x.layers(), 2);
        BeastCave none = new BeastCave();
        fine(none, none.layers(), 1);
        StringBuilder many = new StringBuilder("beast b;");
        for (char c = 'm'; c < 'u'; c++) {
            many.append("figure ").append(c).append(" of b style 0 0;");
        }
        BeastCave y = of(many.toString());
        fine(y, y.layers(), 40320);
        yes(y, y.cover(0, 7));
        fine(y, y.layers(), 20160);

        promise(40);
        for (int k = 0; k < 3; k++) {
            fine(x, x.layerAt(k), k);
        }
        no(x, x.layerAt(3), 6);
        no(x, x.layerAt(-1), 1);
        int[] order = {1, 2, 3, 4, 5, 6, 7, 0};
        for (int k = 0; k < 8; k++) {
            fine(y, y.layerAt(k), order[k]);
        }

        promise(41);
        fine(x, x.low(0), 0);
        fine(x, x.low(1), 1);
        yes(x, x.cover(2, 1));
        fine(x, x.low(2), 2);
        fine(x, x.layers(), 1);
        no(x, x.low(3), 1);
        no(x, x.low(-1), 1);
        fine(x, x.draw(0, 0, 0), 3);
        yes(x, x.cover(0, 2));
        no(x, x.low(0), 6);
        no(x, x.low(3), 6);
        promise(39);
        fine(x, x.layers(), 0);
        promise(40);
        no(x, x.layerAt(0), 6);
        yes(y, y.cover(7, 3));
        yes(y, y.cover(3, 5));
        promise(41);
        fine(y, y.low(0), 3);
        fine(y, y.low(5), 0);
    }

    private static void handsOfFigures() {
        promise(42);
        BeastCave x = of(CAVE);
        int[][] hands = {{0, 3}, {1, 3}, {2, 2}, {12, 2}, {13, 2}, {14, 2}, {15, 1}, {18, 1}};
        for (int[] h : hands) {
            fine(x, x.hands(h[0]), h[1]);
        }
        no(x, x.hands(19), 1);
        no(x, x.hands(-1), 1);
        BeastCave none = new BeastCave();
        fine(none, none.hands(0), 0);

        promise(43);
        int[][] hand = {{0, 1}, {1, 1}, {2, 3}, {13, 3}, {14, 3}, {15, 7}, {18, 7}};
        for (int[] h : hand) {
            fine(x, x.hand(h[0]), h[1]);
        }
        no(x, x.hand(19), 1);
        no(x, x.hand(-1), 1);
        fine(none, none.hand(18), 0);
        x = of("beast b;figure i of b style 0 0;figure j of b style 9 9;figure k of b style 9 8;figure l of b style 0 1;");
        fine(x, x.hand(1), 6);
        promise(42);
        fine(x, x.hands(1), 2);
        // In the middle lies one who is like both sides; the greatest set first would leave three parts.
        x = of("beast b;figure i of b style 0 0;figure j of b style 1 0;figure k of b style 3 0;figure l of b style 4 0;"
            + "figure m of b style 6 0;figure n of b style 7 0;");
        fine(x, x.hands(3), 2);
        fine(x, x.hands(1), 3);
        promise(43);
        fine(x, x.hand(3), 7);
    }

    private static void rowsOfBeasts() {
        promise(44);
        BeastCave x = of(CAVE);
        int[] rows = {2, 3, 5, 8, 13, 21, 34, 55, 89, 144, 233, 377};
        for (int n = 1; n <= 12; n++) {
            fine(x, x.rows(n), rows[n - 1]);
        }
        no(x, x.rows(0), 1);
        no(x, x.rows(13), 1);
        StringBuilder all = new StringBuilder("beast a;beast b;beast c;beast d;beast e;");
        for (int i = 0; i < 25; i++) {
            all.append("follows ").append((char) ('a' + i / 5)).append(' ').append((char) ('a' + i % 5)).append(" weight 9;");
        }
        BeastCave y = of(all.toString());
        fine(y, y.rows(12), 244140625);
        BeastCave none = new BeastCave();
        fine(none, none.rows(3), 0);

        promise(45);
        fine(x, x.rowsTo(1, 1), 1);
        fine(x, x.rowsTo(3, 0), 3);
        fine(x, x.rowsTo(3, 1), 2);
        fine(x, x.rowsTo(12, 1), 144);
        fine(y, y.rowsTo(12, 4), 48828125);
        no(x, x.rowsTo(1, 2), 1);
        no(x, x.rowsTo(1, -1), 1);
        no(x, x.rowsTo(0, 0), 1);
        no(x, x.rowsTo(13, 0), 1);

        promise(46);
        int[] products = {1, 3, 6, 12, 24, 48, 96, 192};
        for (int n = 1; n <= 8; n++) {
            fine(x, x.likeliest(n), products[n - 1]);
        }
        fine(y, y.likeliest(8), 4782969);
        no(x, x.likeliest(0), 1);
        no(x, x.likeliest(9), 1);
        BeastCave z = of("beast a;");
        fine(z, z.likeliest(1), 1);
        no(z, z.likeliest(2), 6);
        z = new BeastCave();
        no(z, z.likeliest(1), 6);
        no(z, z.likeliestAt(1, 0), 6);

        promise(47);
        for (int k = 0; k < 8; k++) {
            fine(x, x.likeliestAt(8, k), k == 7 ? 1 : 0);
            fine(y, y.likeliestAt(8, k), 0);
        }
        fine(x, x.likeliestAt(1, 0), 0);
        no(x, x.likeliestAt(3, 3), 6);
        no(x, x.likeliestAt(3, -1), 1);
        no(x, x.likeliestAt(0, 0), 1);
        no(x, x.likeliestAt(9, 0), 1);
        z = of("beast a;beast b;beast c;follows b a weight 2;follows a b weight 2;follows c a weight 2;");
        fine(z, z.likeliest(3), 4);
        fine(z, z.likeliestAt(3, 0), 0);
        fine(z, z.likeliestAt(3, 1), 1);
        fine(z, z.likeliestAt(3, 2), 0);
    }

    // ---- promises 48 to 50

    private static void seen() {
        promise(48);
        BeastCave x = of(CAVE);
        tray(x, 0, 2, 2, 2, 4, 0, 201, 3);
        fine(x, x.fits(0, 0, 0), 60);
        fine(x, x.fits(0, 0, 1), 55);
        fine(x, x.fits(0, 0, 2), 6);
        no(x, x.fits(0, 0, 3), 5);
        no(x, x.fits(0, 0, 4), 3);
        no(x, x.fits(0, 1, 0), 2);
        no(x, x.fits(0, 1, 21), 1);
        no(x, x.fits(0, 0, -1), 1);
        no(x, x.fits(3, 0, 0), 1);
        no(x, x.fits(0, 4, 0), 1);
        no(x, x.fits(0, -1, 0), 1);
        promise(49);
        fine(x, x.fitsAt(0, 0, 0, 0), 1);
        fine(x, x.fitsAt(0, 0, 0, 1), 60);
        fine(x, x.fitsAt(0, 0, 1, 0), 6);
        fine(x, x.fitsAt(0, 0, 2, 0), 6);
        fine(x, x.fitsAt(0, 0, 2, 1), 11);
        no(x, x.fitsAt(0, 0, 2, 2), 1);
        no(x, x.fitsAt(0, 1, 2, -1), 1);
        no(x, x.fitsAt(0, 0, 21, 0), 1);
        no(x, x.fitsAt(0, 1, 2, 0), 2);
        no(x, x.fitsAt(0, 0, 4, 0), 3);
        no(x, x.fitsAt(0, 0, 3, 0), 5);
        promise(50);
        fine(x, x.ask(0, 0, 2), 3);
        fine(x, x.ask(0, 0, 0), 49);
        no(x, x.ask(0, 0, 21), 1);
        no(x, x.ask(0, 1, 2), 2);
        no(x, x.ask(0, 0, 4), 3);
        no(x, x.ask(0, 0, 3), 5);

        promise(48);
        tray(x, 1, 1, 2, 2, 73, 0);
        fine(x, x.fits(0, 1, 2), 1);
        promise(49);
        fine(x, x.fitsAt(0, 1, 2, 0), 6);
        fine(x, x.fitsAt(0, 1, 2, 1), 6);
        promise(50);
        no(x, x.ask(0, 1, 2), 6);

        // He is 3 a minute, from minute 20 on 80 less the minutes: two selves are left, 19 and 20.
        tray(x, 1, 1, 6, 2, 7, 0, 61, 2);
        fine(x, x.ask(0, 1, 3), 60);
        // At a bare wall nothing parts them.
        tray(x, 1, 1, 3, 2);
        fine(x, x.ask(1, 1, 1), 0);

        promise(48);
        tray(x, 2, 3, 2, 0, 2, 2);
        fine(x, x.fits(0, 2, 1), 5);
        fine(x, x.fits(0, 2, 2), 0);
        promise(49);
        no(x, x.fitsAt(0, 2, 2, 0), 6);
        promise(50);
        no(x, x.ask(0, 2, 2), 6);
        promise(48);
        tray(x, 2, 3, 2, 1);
        fine(x, x.fits(0, 2, 1), 0);
        long[][] odd = {{-1, 0}, {201, 0}, {0, -1}, {0, 3}, {1L << 32, 0}, {0, 1L << 32}};
        for (long[] two : odd) {
            tray(x, 2, 3, two);
            no(x, x.fits(0, 2, 1), 5);
        }
        tray(x, 2, 3, 200, 2);
        fine(x, x.fits(0, 2, 1), 60);
        yes(x, x.tray(3, 0, 40));
        fine(x, x.fits(0, 3, 20), 0);
        x = of("lamp 99;beast b;wall w of b pulls 9;visitor v self 1 at w;");
        fine(x, x.fill(99), 198);
        fine(x, x.fill(2), 200);
        tray(x, 0, 1, 200, 0, 200, 1);
        fine(x, x.fits(0, 0, 1), 60);
        fine(x, x.fits(0, 0, 2), 0);
        tray(x, 0, 1, 7, 1, 0, 1);
        fine(x, x.fits(0, 0, 1), 0);
        tray(x, 0, 1, 6, 1, 0, 1);
        fine(x, x.fits(0, 0, 2), 7);
        promise(49);
        fine(x, x.fitsAt(0, 0, 2, 0), 54);
        fine(x, x.fitsAt(0, 0, 2, 1), 60);
    }

    // ---- promises 51 to 54

    private static void games() {
        promise(51);
        String two = "beast b;wall x of b pulls 3;wall m;way x m long 1;visitor v self 5 at x;visitor w self 5 at m;";
        BeastCave x = of(two);
        fine(x, x.game(0, 0), 5);
        fine(x, x.game(0, 1), 5);
        fine(x, x.game(0, 2), 5);
        fine(x, x.game(1, 1), 5);
        fine(x, x.game(1, 2), 5);
        fine(x, x.visitor(0, 1), 0);
        fine(x, x.told(6), 0);
        no(x, x.game(2, 0), 1);
        no(x, x.game(0, 5), 1);
        no(x, x.game(0, -1), 1);
        promise(52);
        fine(x, x.moveOf(0, 1), 1);
        fine(x, x.moveOf(0, 2), 1);
        fine(x, x.moveOf(1, 1), 0);
        no(x, x.moveOf(1, 2), 6);
        no(x, x.moveOf(0, 0), 1);
        no(x, x.moveOf(0, 5), 1);
        no(x, x.moveOf(2, 1), 1);
        fine(x, x.minute(2), 1);
        no(x, x.moveOf(0, 1), 6);

        promise(51);
        x = of("beast b;wall x of b pulls 2;wall y;way x y long 9;visitor v self 1 at x;");
        fine(x, x.minute(1), 1);
        fine(x, x.game(0, 0), -1);
        fine(x, x.game(0, 1), 1 - 4);
        x = of("beast b;wall x of b pulls 2;visitor v self 1 at x;");
        int[] values = {1, -1, -4, -7, -11};
        for (int n = 0; n < 5; n++) {
            fine(x, x.game(0, n), values[n]);
        }
        fine(x, x.wall(0, 1), 2);
        yes(x, x.paint(0, 0, 9));
        fine(x, x.game(0, 4), 1 - 36);
        x = of("lamp 1;beast b;wall x of b pulls 2;visitor v self 1 at x;");
        fine(x, x.game(0, 2), 0);
        fine(x, x.game(0, 3), 1);
    }

    private static void flickers() {
        promise(53);
        BeastCave x = new BeastCave();
        yes(x, x.flicker(3, 2));
        fraction(x, 5, 32);
        yes(x, x.flicker(0, 0));
        fraction(x, 1, 1);
        yes(x, x.flicker(0, 1));
        fraction(x, 0, 1);
        yes(x, x.rule(0));
        yes(x, x.flicker(5, 0));
        fraction(x, 1, 1);
        yes(x, x.flicker(5, 1));
        fraction(x, 0, 1);
        yes(x, x.rule(16));
        yes(x, x.flicker(5, 5));
        fraction(x, 1, 1);
        yes(x, x.rule(1));
        yes(x, x.flicker(12, 12));
        fraction(x, 1, 1L << 48);
        yes(x, x.flicker(2, 1));
        fraction(x, 31, 256);
        no(x, x.flicker(13, 0), 1);
        no(x, x.flicker(-1, 0), 1);
        no(x, x.flicker(0, 13), 1);
        no(x, x.flicker(0, -1), 1);
        fraction(x, 31, 256);
    }

    private static void copies() {
        promise(54);
        BeastCave x = of(CAVE);
        fine(x, x.minute(2), 1);
        tray(x, 0, 0, 9, 9, 9, 9);
        fine(x, x.copyMost(0), 3);
        int[] most = {6, 0, 4, 9};
        for (int i = 0; i < 4; i++) {
            fine(x, x.read(0, i), most[i]);
        }
        no(x, x.copyMost(1), 2);
        yes(x, x.tray(1, 3, 2));
        no(x, x.copyMost(1), 3);
        fine(x, x.read(1, 0), 0);
        no(x, x.copyMost(4), 1);
        no(x, x.copyMost(-1), 1);
        x = new BeastCave();
        yes(x, x.tray(0, 0, 0));
        fine(x, x.copyMost(0), 0);
    }

    // ---- promises 55 to 57

    private static void lives() {
        promise(55);
        BeastCave x = of(CAVE, "minute 3;lead p m;lead q x;wake p;fill 9;any;minute 2;");
        fine(x, x.live(0), 7);
        lived(x, 1, 5, 2, 2, 0);
        fine(x, x.visitor(2, 1), 1);
        fine(x, x.visitor(2, 2), 0);
        fine(x, x.measure(2, 1), 4);
        fine(x, x.measure(1, 0), 3);
        fine(x, x.told(4), 24);
        fine(x, x.told(6), 5);
        no(x, x.live(-1), 1);
        no(x, x.live(10000), 1);
        fine(x, x.live(9999), 7);
        promise(56);
        no(x, x.lived(5), 1);
        no(x, x.lived(-1), 1);
        x = new BeastCave();
        no(x, x.lived(5), 1);
        no(x, x.lived(4), 6);

        promise(55);
        x = of(CAVE, "when turned p;minute 1;end;when at q m;minute 2;end;when dark;minute 4;end;when self p<1;minute 8;end;"
            + "when self p=0;minute 16;end;when self p>5;minute 32;end;");
        fine(x, x.live(0), 8);
        lived(x, 0, 34, 0, 2, 0);
        fine(x, x.live(0), 10);
        lived(x, 0, 1 + 2 + 4 + 32, 0, 0, 0);
        x = of(CAVE, "minute 1;when self p>3;minute 1;end;when self p<3;minute 1;end;when self p=3;fill 1;end;");
        fine(x, x.live(0), 5);
        lived(x, 0, 1, 0, 0, 0);
        x = of(CAVE, "minute 1;when self p>2;fill 1;end;when self p<4;fill 2;end;when self p=4;fill 4;end;");
        fine(x, x.live(0), 6);
        fine(x, x.told(4), 22);
        x = of(CAVE, "lead q x;when at q x;minute 1;end;when at q m;minute 9;end;");
        fine(x, x.live(0), 4);
        lived(x, 0, 1, 1, 0, 0);
        x = of(CAVE, "loop 3;minute 2;loop 2;wake q;end;end;");
        fine(x, x.live(0), 13);
        lived(x, 6, 6, 0, 2, 0);
        x = of(CAVE, "minute 1;stop;minute 1;");
        fine(x, x.live(0), 2);
        lived(x, 0, 1, 0, 0, 0);
        x = of("wall a;wall b;way a b long 1;visitor v self 1 at a;", "any;any;");
        fine(x, x.live(0), 2);
        lived(x, 1, 0, 1, 0, 0);
        fine(x, x.visitor(0, 1), 1);
        x = of("wall w;", "any;");
        fine(x, x.live(0), 1);
        lived(x, 1, 0, 0, 0, 0);
        no(x, x.cave(feed(x, "oh")), 9);
        fine(x, x.cave(0), 0);
        no(x, x.live(0), 6);
        lived(x, 1, 0, 0, 0, 0);
    }

    private static void livesAtTheirEdges() {
        promise(55);
        BeastCave x = of(CAVE, "loop 99;loop 99;minute 1;end;end;");
        fine(x, x.live(0), 300);
        lived(x, 0, 296, 0, 2, 1);
        String three = "loop 99;minute 1;end;loop 99;minute 1;end;";
        x = of(CAVE, three + "loop 99;minute 1;end;");
        fine(x, x.live(0), 300);
        lived(x, 0, 297, 0, 2, 0);
        x = of(CAVE, three + "loop 99;minute 1;end;stop;");
        fine(x, x.live(0), 300);
        lived(x, 0, 297, 0, 2, 1);
        x = of(CAVE, three + "loop 98;minute 1;end;stop;minute 1;");
        fine(x, x.live(0), 300);
        lived(x, 0, 296, 0, 2, 0);
        x = of(CAVE, "loop 99;loop 99;loop 99;end;end;end;");
        fine(x, x.live(0), 300);
        lived(x, 0, 0, 0, 0, 1);
        x = of(CAVE, three + "loop 98;minute 1;end;when turned q;stop;end;");
        fine(x, x.live(0), 300);
        lived(x, 0, 296, 0, 2, 0);

        x = of(CAVE, "minute 10;minute 9;minute 1;");
        for (int i = 0; i < 41; i++) {
            x.minute(240);
        }
        fine(x, x.minute(150), 0);
        fine(x, x.live(0), 3);
        lived(x, 2, 9, 0, 0, 0);
        fine(x, x.told(6), 9999);
        x = of(CAVE, "fill 9;fill 1;");
        for (int i = 0; i < 9; i++) {
            x.fill(99);
        }
        fine(x, x.fill(79), 990);
        fine(x, x.live(0), 2);
        lived(x, 1, 0, 0, 0, 0);
        fine(x, x.told(4), 999);
    }

    private static void means() {
        promise(57);
        BeastCave x = of("beast b;wall a of b pulls 5;wall c;way a c long 1;visitor v self 3 at a;", "any;minute 2;");
        yes(x, x.mean(0, 8));
        fraction(x, 0, 1);
        yes(x, x.mean(8, 3));
        fraction(x, 1, 1);
        yes(x, x.mean(6, 3));
        fraction(x, 1, 3);
        yes(x, x.mean(0, 20));
        fraction(x, 2, 5);
        fine(x, x.told(6), 0);
        fine(x, x.visitor(0, 3), 0);
        no(x, x.lived(0), 6);
        no(x, x.mean(-1, 1), 1);
        no(x, x.mean(0, 0), 1);
        no(x, x.mean(0, 21), 1);
        no(x, x.mean(9999, 2), 1);
        no(x, x.mean(10000, 1), 1);
        no(x, x.mean(9981, 20), 1);
        no(x, x.mean(Integer.MAX_VALUE, 20), 1);
        fraction(x, 2, 5);
        yes(x, x.mean(9980, 20));
        yes(x, x.mean(9999, 1));
        fine(x, x.live(8), 2);
        lived(x, 1, 2, 0, 1, 0);
        yes(x, x.mean(0, 1));
        lived(x, 1, 2, 0, 1, 0);
        x = of(CAVE);
        no(x, x.mean(0, 1), 6);
        no(x, x.mean(0, 0), 1);
    }

    // ---- promises 58, 59

    private static void marks() {
        promise(58);
        BeastCave x = of(CAVE, "minute 2;");
        fine(x, x.mark(), 1);
        fine(x, x.live(0), 1);
        fine(x, x.mark(), 2);
        fine(x, x.cave(feed(x, "lamp 3;")), 0);
        fine(x, x.mark(), 3);
        no(x, x.mark(), 4);
        fine(x, x.fill(9), 12);
        promise(59);
        fine(x, x.undo(), 2);
        fine(x, x.told(4), 3);
        no(x, x.live(0), 6);
        fine(x, x.undo(), 1);
        fine(x, x.told(6), 2);
        fine(x, x.told(8), 1);
        lived(x, 0, 2, 0, 1, 0);
        fine(x, x.days(feed(x, "wake p;wake q;")), 2);
        fine(x, x.live(0), 2);
        yes(x, x.paint(0, 0, 7));
        fine(x, x.come(3, 0), 3);
        fine(x, x.draw(0, 0, 0), 3);
        yes(x, x.cover(0, 3));
        yes(x, x.rule(3));
        fine(x, x.lead(1, 1), 1);
        tray(x, 0, 0, 5);
        yes(x, x.flicker(1, 1));
        fine(x, x.undo(), 0);
        int[] first = {2, 3, 3, 3, 20, 8, 0, 1, 0, 0};
        for (int what = 0; what < first.length; what++) {
            fine(x, x.told(what), first[what]);
        }
        fine(x, x.visitor(1, 1), 0);
        fine(x, x.figure(0, 3), 0);
        fine(x, x.read(0, 0), 5);
        fraction(x, 3, 16);
        fine(x, x.live(0), 1);
        fine(x, x.told(6), 2);
        no(x, x.undo(), 6);
        promise(58);
        fine(x, x.mark(), 1);
        promise(59);
        fine(x, x.minute(5), 2);
        fine(x, x.undo(), 0);
        fine(x, x.told(6), 2);
    }
}
