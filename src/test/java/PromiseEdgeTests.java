import java.util.function.Supplier;

/** The edges that each promise names: its last inputs on either side, what is refused and left as it was, in what order. */
public final class PromiseEdgeTests extends Edges {
    /** A visitor who is turned, a bare wall that no way goes to, figures that lie over each other in a ring. */
    private static final String RING = "beast b;wall w of b pulls 9;wall x;visitor v self 8 at w;"
        + "figure f of b style 1 1;figure g of b style 1 1;over f g;over g f;";

    public static void main(String[] args) {
        newOnes();
        trays();
        tape();
        texts();
        asked();
        passing();
        leading();
        painting();
        more();
        ahead();
        safety();
        ways();
        tours();
        layers();
        hands();
        rows();
        seen();
        games();
        copies();
        lives();
        means();
        marks();
        tellEdges();
    }

    private static BeastCave ring() {
        BeastCave x = of(RING);
        fine(x, x.minute(1), 1);
        return x;
    }

    // ---- promises 1 to 4

    private static void newOnes() {
        edge("A CAVE of nothing; LAMP 60, ODDS 4; MINUTE 0; no DAYS, MARKS; TRAYS are MISSING; an empty tape; the FRACTION 0 by 1; STATUS 0.",
            () -> {
                BeastCave x = new BeastCave();
                due(x.status(), 0);
                fraction(x, 0, 1);
                for (int what = 0; what < 10; what++) {
                    fine(x, x.told(what), what == 4 ? 60 : what == 5 ? 4 : 0);
                }
                for (int t = 0; t < 4; t++) {
                    no(x, x.read(t, 0), 2);
                }
                no(x, x.live(0), 6);
                no(x, x.mean(0, 1), 6);
                no(x, x.undo(), 6);
                no(x, x.lived(0), 6);
                no(x, x.cave(1), 1);
                no(x, x.days(1), 1);
                no(x, x.wall(0, 0), 1);
                no(x, x.visitor(0, 0), 1);
                no(x, x.measure(0, 0), 1);
                no(x, x.who(0), 1);
                no(x, x.figure(0, 0), 1);
                no(x, x.weight(0, 0), 1);
                no(x, x.near(0), 1);
                no(x, x.tour(0, 0, 1), 1);
                no(x, x.low(0), 1);
                no(x, x.come(1, 0), 1);
                no(x, x.draw(0, 0, 0), 1);
                due(x.fault(0), -1);
                due(x.fault(1), -1);
                due(x.feed(0, 0, 0, 0, 0), 20);
            });
        edge("STATUS of the latest call that has one.", () -> {
            BeastCave x = new BeastCave();
            no(x, x.undo(), 6);
            no(x, x.told(10), 1);
            due(x.status(), 1);
            due(x.status(), 1);
            fine(x, x.told(9), 0);
        });
        edge("The top of the FRACTION told latest.", () -> {
            BeastCave x = of("odds 8;", "stop;");
            yes(x, x.flicker(2, 1));
            due(x.top(), 3);
            no(x, x.flicker(2, 13), 1);
            no(x, x.mean(0, 0), 1);
            due(x.top(), 3);
            yes(x, x.mean(0, 1));
            due(x.top(), 0);
        });
        edge("Its bottom, above 0.", () -> {
            BeastCave x = of("odds 8;", "stop;");
            due(x.bottom(), 1);
            yes(x, x.flicker(2, 1));
            due(x.bottom(), 4);
            no(x, x.flicker(-1, 1), 1);
            due(x.bottom(), 4);
            yes(x, x.mean(0, 20));
            due(x.bottom(), 1);
        });
    }

    // ---- promises 5 to 8

    private static void trays() {
        edge("A TRAY is a row of so many 0s (1).", () -> {
            range(0, 3, (x, i) -> n(x.tray(i, 0, 1)));
            range(0, 3, (x, i) -> n(x.tray(0, i, 1)));
            range(0, 60, (x, i) -> n(x.tray(0, 0, i)));
            for (int t = 0; t < 4; t++) {
                BeastCave x = new BeastCave();
                for (int other = 0; other < 4; other++) {
                    tray(x, other, 3, noZeros(60));
                }
                yes(x, x.tray(t, 3, 60));
                for (int other = 0; other < 4; other++) {
                    numbers(x, other, other == t ? new long[60] : noZeros(60));
                }
            }
            for (int many : new int[] {0, 1, 59, 60}) {
                BeastCave x = rich();
                yes(x, x.tray(2, 3, 60));
                for (int i = 0; i < 60; i++) {
                    yes(x, x.write(2, i, i + 1));
                }
                yes(x, x.tray(2, 1, many));
                for (int i = 0; i < many; i++) {
                    fine(x, x.read(2, i), 0);
                }
                no(x, x.read(2, many), 3);
                fine(x, x.read(1, 0), 100000);
            }
        });
        edge("A number comes to a place of a TRAY, cut to its sort (1, 2, 3).", () -> {
            range(0, 3, (x, i) -> n(x.write(i, 0, 1)));
            range(Edges::rich, 0, 5, 3, (x, i) -> n(x.write(0, i, 1)));
            range(Edges::rich, 0, 59, 3, (x, i) -> n(x.write(2, i, 1)));
            refused(Edges::rich, x -> n(x.write(3, 0, 1)), 2);
            refused(Edges::rich, x -> n(x.write(3, -1, 1)), 2);
            refused(Edges::rich, x -> n(x.write(4, -1, 1)), 1);
            refused(Edges::rich, x -> n(x.write(-1, 60, 1)), 1);
            BeastCave x = rich();
            yes(x, x.write(0, 5, 0x1ff));
            fine(x, x.read(0, 5), -1);
            yes(x, x.write(0, 5, Long.MIN_VALUE));
            fine(x, x.read(0, 5), 0);
            fine(x, x.read(0, 4), 5);
        });
        edge("The number in a place of a TRAY; STATUS tells NONE from -1 (1, 2, 3).", () -> {
            range(0, 3, (x, i) -> x.read(i, 0));
            range(Edges::rich, 0, 5, 3, (x, i) -> x.read(0, i));
            range(Edges::rich, 0, 59, 3, (x, i) -> x.read(2, i));
            refused(Edges::rich, x -> x.read(3, 0), 2);
            refused(Edges::rich, x -> x.read(3, -1), 2);
            refused(Edges::rich, x -> x.read(4, -1), 1);
            BeastCave x = rich();
            yes(x, x.write(0, 0, -1));
            fine(x, x.read(0, 0), -1);
        });
        edge("So many numbers of a TRAY, from a place on, come to another one's (or its own) place on, as they were (1: below 0, too; 2; 8; 3; asked in this order).",
            PromiseEdgeTests::poured);
    }

    private static BeastCave twoAlike() {
        BeastCave x = rich();
        tray(x, 3, 0, 11, 12, 13);
        return x;
    }

    private static void poured() {
        range(0, 3, (x, i) -> n(x.pour(i, 0, 0, 0, 1)));
        range(0, 3, (x, i) -> n(x.pour(0, 0, i, 0, 1)));
        // Below 0: 1, even where more is wrong; above: 3.
        for (int below : new int[] {-1, Integer.MIN_VALUE}) {
            refused(Edges::rich, x -> n(x.pour(0, below, 0, 0, 1)), 1);
            refused(Edges::rich, x -> n(x.pour(0, 0, 0, below, 1)), 1);
            refused(Edges::rich, x -> n(x.pour(0, 0, 0, 0, below)), 1);
            refused(Edges::rich, x -> n(x.pour(3, below, 1, 99, 99)), 1);
            refused(Edges::rich, x -> n(x.pour(3, 99, 1, below, 99)), 1);
            refused(Edges::rich, x -> n(x.pour(3, 99, 1, 99, below)), 1);
        }
        refused(Edges::rich, x -> n(x.pour(3, 0, 4, 0, 0)), 1);
        // 2 ahead of 8 and 3
        refused(Edges::rich, x -> n(x.pour(3, 0, 0, 0, 0)), 2);
        refused(Edges::rich, x -> n(x.pour(0, 0, 3, 0, 0)), 2);
        refused(Edges::rich, x -> n(x.pour(3, 99, 1, 0, 99)), 2);
        refused(Edges::rich, x -> n(x.pour(1, 99, 3, 0, 99)), 2);
        // 8 ahead of 3
        refused(Edges::rich, x -> n(x.pour(0, 0, 1, 0, 0)), 8);
        refused(Edges::rich, x -> n(x.pour(0, 99, 1, 99, 99)), 8);
        refused(Edges::rich, x -> n(x.pour(2, 0, 1, 0, 1)), 8);
        // 3
        refused(PromiseEdgeTests::twoAlike, x -> n(x.pour(0, 3, 3, 0, 4)), 3);
        refused(PromiseEdgeTests::twoAlike, x -> n(x.pour(0, 4, 3, 0, 3)), 3);
        refused(PromiseEdgeTests::twoAlike, x -> n(x.pour(0, 6, 3, 0, 1)), 3);
        refused(PromiseEdgeTests::twoAlike, x -> n(x.pour(0, 0, 3, 1, 3)), 3);
        refused(PromiseEdgeTests::twoAlike, x -> n(x.pour(0, 0, 3, 3, 1)), 3);
        refused(PromiseEdgeTests::twoAlike, x -> n(x.pour(0, 0, 0, 1, 6)), 3);
        refused(PromiseEdgeTests::twoAlike, x -> n(x.pour(0, Integer.MAX_VALUE, 3, 0, 1)), 3);
        refused(PromiseEdgeTests::twoAlike, x -> n(x.pour(0, 1, 3, 0, Integer.MAX_VALUE)), 3);
        refused(PromiseEdgeTests::twoAlike, x -> n(x.pour(0, 0, 3, Integer.MAX_VALUE, Integer.MAX_VALUE)), 3);
        BeastCave x = twoAlike();
        yes(x, x.pour(0, 3, 3, 0, 3));
        numbers(x, 3, -4, 5, -6);
        yes(x, x.pour(3, 0, 0, 5, 1));
        numbers(x, 0, 1, -2, 3, -4, 5, -4);
        yes(x, x.pour(0, 0, 0, 0, 6));
        numbers(x, 0, 1, -2, 3, -4, 5, -4);
        // Its own, over itself either way: as they were.
        yes(x, x.pour(0, 0, 0, 1, 5));
        numbers(x, 0, 1, 1, -2, 3, -4, 5);
        yes(x, x.pour(0, 2, 0, 0, 4));
        numbers(x, 0, -2, 3, -4, 5, -4, 5);
        yes(x, x.pour(0, 0, 3, 0, 0));
        numbers(x, 3, -4, 5, -6);
    }

    /** So many numbers, none of them 0. */
    private static long[] noZeros(int many) {
        long[] numbers = new long[many];
        for (int i = 0; i < many; i++) {
            numbers[i] = -1 - i;
        }
        return numbers;
    }

    private static void numbers(BeastCave x, int tray, long... due) {
        for (int i = 0; i < due.length; i++) {
            fine(x, x.read(tray, i), due[i]);
        }
    }

    // ---- promises 9 to 12

    private static void tape() {
        edge("Twenty bytes come behind those on the tape, the highest of each int first: how many it has; NONE if there would be more than 900.",
            () -> {
                BeastCave x = new BeastCave();
                // "lamp 3;" and 893 blanks
                due(x.feed(0x6c616d70, 0x20333b20, 0x20202020, 0x20202020, 0x20202020), 20);
                for (int i = 2; i <= 45; i++) {
                    due(x.feed(0x20202020, 0x20202020, 0x20202020, 0x20202020, 0x20202020), 20 * i);
                }
                due(x.feed(0x41414141, 0x41414141, 0x41414141, 0x41414141, 0x41414141), -1);
                due(x.feed(-1, -1, -1, -1, -1), -1);
                due(x.status(), 0);
                no(x, x.cave(901), 1);
                fine(x, x.cave(900), 0);
                fine(x, x.told(4), 3);
                due(x.feed(0, 0, 0, 0, 0), 20);
                due(x.feed(0x80818283, 0xfffefdfc, Integer.MIN_VALUE, Integer.MAX_VALUE, 0), 40);
            });
        edge("The first n bytes of the tape (which is empty then) are the CAVE: how many VISITORS (1: n below 0, or more than the tape has, too; 9: the old one stays).",
            () -> {
                range(0, 20, (x, i) -> x.cave(i));
                range(BeastCave::new, 0, 0, 1, (x, i) -> x.cave(i));
                // With 9 the tape, and what fault() tells, change, and nothing else.
                BeastCave x = rich();
                no(x, x.cave(6), 9);
                faultIs(x, 2, 6);
                no(x, x.cave(1), 1);
                no(x, x.days(1), 1);
                fine(x, x.told(4), 19);
                fine(x, x.told(6), 2);
                fine(x, x.told(8), 1);
                fine(x, x.measure(0, 0), 6);
                fraction(x, 1, 2);
                fine(x, x.read(0, 1), -2);
                fine(x, x.live(3), 5);
                fine(x, x.undo(), 1);
                fine(x, x.told(4), 21);
                // What stood on the tape behind n is gone, too.
                x = new BeastCave();
                feed(x, "lamp 3;odds 5;");
                fine(x, x.cave(7), 0);
                fine(x, x.told(5), 4);
                no(x, x.cave(1), 1);
                due(feed(x, "odds 6;"), 7);
                fine(x, x.cave(7), 0);
                fine(x, x.told(5), 6);
                fine(x, x.told(4), 60);
                // A faulty text does not leave half of itself.
                x = of(CAVE);
                no(x, x.cave(feed(x, "lamp 3;odds 5;beast z;wall z;")), 9);
                faultIs(x, 3, 27);
                fine(x, x.told(4), 20);
                fine(x, x.told(5), 8);
                fine(x, x.told(0), 2);
                fine(x, x.days(feed(x, "wake p;")), 1);
            });
        edge("Likewise the DAYS: how many STEPS (1: above 300, too; 9).", () -> {
            range(0, 20, (x, i) -> x.days(i));
            Supplier<BeastCave> fed = () -> {
                BeastCave x = rich();
                feed(x, times(284, " "));
                return x;
            };
            range(fed, 0, 300, 1, (x, i) -> x.days(i));
            // 1 ahead of 9, and the tape stays
            BeastCave x = of(CAVE, "minute 1;");
            feed(x, "A" + times(300, " "));
            no(x, x.days(301), 1);
            due(x.fault(0), 0);
            no(x, x.days(300), 9);
            faultIs(x, 1, 0);
            no(x, x.days(1), 1);
            fine(x, x.live(0), 1);
            fine(x, x.told(6), 1);
            no(x, x.days(feed(x, "minute 2;minute 3")), 9);
            faultIs(x, 2, 17);
            fine(x, x.live(0), 1);
            fine(x, x.told(6), 2);
        });
        edge("what 0: the FAULT (0 without one), 1: its place (NONE without). NONE for others, and ahead of any.", () -> {
            BeastCave x = new BeastCave();
            for (int what : new int[] {-1, 0, 1, 2, Integer.MIN_VALUE, Integer.MAX_VALUE}) {
                due(x.fault(what), -1);
            }
            no(x, x.cave(1), 1);
            due(x.fault(0), -1);
            no(x, x.cave(feed(x, "lamp 3")), 9);
            due(x.fault(0), 2);
            due(x.fault(1), 6);
            due(x.fault(2), -1);
            due(x.fault(-1), -1);
            // Neither a refused text nor another call changes it; one without a fault does.
            no(x, x.cave(1), 1);
            no(x, x.days(-1), 1);
            fine(x, x.minute(1), 0);
            due(x.fault(0), 2);
            due(x.fault(1), 6);
            fine(x, x.days(0), 0);
            due(x.fault(0), 0);
            due(x.fault(1), -1);
            no(x, x.days(feed(x, "end;")), 9);
            due(x.fault(0), 2);
            due(x.fault(1), 0);
            fine(x, x.cave(0), 0);
            due(x.fault(0), 0);
            due(x.fault(1), -1);
        });
    }

    // ---- promises 13 to 19

    private static void texts() {
        edge("sets: of WALLS that are BARE (1 for WALL 0 ..) (7), of VISITORS who are TURNED (1 for VISITOR 0 ..) (8), on a WAY (9) (1).",
            () -> {
                range(0, 9, (x, i) -> x.told(i));
                BeastCave x = of("beast b;" + "wall c;wall d;wall e;wall f;wall g;wall h;wall i;way c d long 9;"
                    + "visitor m self 1 at c;visitor n self 1 at c;visitor o self 1 at c;visitor p self 1 at c;"
                    + "visitor q self 1 at c;visitor r self 1 at c;");
                fine(x, x.told(7), 127);
                fine(x, x.told(8), 0);
                fine(x, x.told(9), 0);
                for (int v = 0; v < 6; v++) {
                    fine(x, x.lead(v, 1), 9);
                }
                fine(x, x.told(9), 63);
                fine(x, x.minute(9), 0);
                fine(x, x.told(9), 0);
                yes(x, x.paint(1, 0, 9));
                fine(x, x.told(7), 125);
                yes(x, x.paint(0, 0, 9));
                fine(x, x.told(7), 124);
                fine(x, x.scrub(0), 0);
                fine(x, x.minute(1), 6);
                fine(x, x.told(8), 63);
                x = rich();
                fine(x, x.told(7), 1);
                fine(x, x.told(8), 1);
                fine(x, x.told(9), 2);
            });
        edge("Of a WALL, what 0: its BEAST, 1: its PULL (1; 6: it is BARE).", () -> {
            range(0, 2, (x, i) -> x.wall(i, 0));
            range(0, 1, (x, i) -> x.wall(1, i));
            refused(Edges::rich, x -> x.wall(0, 0), 6);
            refused(Edges::rich, x -> x.wall(0, 1), 6);
            refused(Edges::rich, x -> x.wall(0, 2), 1);
            refused(Edges::rich, x -> x.wall(0, -1), 1);
        });
        edge("Of a VISITOR, what 0: SELF, 1: AT which WALL, 2: how many MINUTES to go, 3: his greatest MEASURE (1).", () -> {
            range(0, 2, (x, i) -> x.visitor(i, 0));
            range(0, 3, (x, i) -> x.visitor(0, i));
            BeastCave x = rich();
            int[][] due = {{5, 1, 0, 6}, {4, 1, 1, 0}, {9, 2, 0, 4}};
            for (int v = 0; v < 3; v++) {
                for (int what = 0; what < 4; what++) {
                    fine(x, x.visitor(v, what), due[v][what]);
                }
            }
        });
        edge("MEASURE of a BEAST (1).", () -> {
            range(0, 2, (x, i) -> x.measure(i, 0));
            range(0, 1, (x, i) -> x.measure(0, i));
        });
        edge("The BEAST that a VISITOR is (1; 6: himself).", () -> {
            range(0, 2, (x, i) -> x.who(i));
            refused(Edges::rich, x -> x.who(1), 6);
            refused(Edges::rich, x -> x.who(2), 6);
            BeastCave x = rich();
            fine(x, x.who(0), 0);
            fine(x, x.minute(1), 1);
            fine(x, x.minute(3), 3);
            int[] due = {0, 0, 1};
            for (int v = 0; v < 3; v++) {
                fine(x, x.who(v), due[v]);
            }
        });
        edge("3: the set of FIGURES over which it lies as told (1 for FIGURE 0 ..) (1).", () -> {
            range(0, 2, (x, i) -> x.figure(i, 3));
            range(0, 3, (x, i) -> x.figure(0, i));
            // As told: not what lies below that.
            BeastCave x = of(CAVE);
            yes(x, x.cover(0, 2));
            fine(x, x.figure(0, 3), 4);
            fine(x, x.figure(1, 3), 1);
        });
        edge("WEIGHT by which the second BEAST may stand behind the first, 0 if it may not (1).", () -> {
            range(0, 1, (x, i) -> x.weight(i, 0));
            range(0, 1, (x, i) -> x.weight(0, i));
            BeastCave x = rich();
            fine(x, x.weight(1, 1), 0);
            fine(x, x.weight(0, 1), 3);
        });
    }

    private static void asked() {
        edge("How many BEASTS (what 0), WALLS (1), VISITORS (2), FIGURES (3); LAMP (4), ODDS (5); the MINUTE (6)", () -> {
            BeastCave x = full();
            int[] due = {2, 3, 6, 8, 999, 8, 9999};
            for (int what = 0; what < due.length; what++) {
                fine(x, x.told(what), due[what]);
            }
        });
    }

    // ---- promises 20 to 29

    private static void passing() {
        edge("So many MINUTES (1 to 240): how many VISITORS are TURNED then (1; 4: above 9,999).", () -> {
            range(1, 240, (x, i) -> x.minute(i));
            refused(Edges::full, x -> x.minute(1), 4);
            refused(Edges::full, x -> x.minute(240), 4);
            // 1 ahead of 4
            range(Edges::full, 1, 240, 1, (x, i) -> x.minute(i));
            BeastCave x = rich();
            fine(x, x.minute(240), 0);
            fine(x, x.told(6), 242);
            fine(x, x.told(4), 0);
            Supplier<BeastCave> near = () -> {
                BeastCave y = of(CAVE);
                for (int i = 0; i < 41; i++) {
                    y.minute(240);
                }
                return y;
            };
            refused(near, y -> y.minute(160), 4);
            refused(near, y -> y.minute(240), 4);
            x = near.get();
            fine(x, x.minute(159), 0);
            fine(x, x.told(6), 9999);
        });
    }

    private static void leading() {
        edge("LEAD: how many MINUTES he has to go (1; 7: he is TURNED, on a WAY, there, no WAY goes there at once).", () -> {
            range(0, 2, (x, i) -> x.lead(i, 0));
            range(0, 2, (x, i) -> x.lead(2, i));
            refused(Edges::rich, x -> x.lead(0, 0), 7);
            refused(Edges::rich, x -> x.lead(1, 0), 7);
            refused(Edges::rich, x -> x.lead(1, 1), 7);
            refused(Edges::rich, x -> x.lead(1, 2), 7);
            refused(Edges::rich, x -> x.lead(2, 2), 7);
            // 1 ahead of 7
            refused(Edges::rich, x -> x.lead(0, 3), 1);
            refused(Edges::rich, x -> x.lead(1, -1), 1);
            Supplier<BeastCave> line = () -> of("wall a;wall b;wall c;way a b long 1;way b c long 9;visitor v self 1 at a;");
            refused(line, x -> x.lead(0, 2), 7);
            BeastCave x = line.get();
            fine(x, x.lead(0, 1), 1);
            fine(x, x.minute(1), 0);
            fine(x, x.lead(0, 2), 9);
            fine(x, x.minute(9), 0);
            no(x, x.lead(0, 0), 7);
        });
        edge("WAKE: his greatest MEASURE then (1; 7: all are 0).", () -> {
            range(0, 2, (x, i) -> x.wake(i));
            refused(Edges::rich, x -> x.wake(1), 7);
            BeastCave x = rich();
            int[] due = {3, 1, 0};
            for (int most : due) {
                fine(x, x.wake(0), most);
            }
            no(x, x.wake(0), 7);
            fine(x, x.minute(1), 0);
            // On a way, too.
            fine(x, x.wake(2), 3);
            fine(x, x.lead(2, 1), 2);
            fine(x, x.wake(2), 1);
        });
        edge("FILL (1 to 99): LAMP then (1; 4: above 999).", () -> {
            range(1, 99, (x, i) -> x.fill(i));
            refused(Edges::full, x -> x.fill(1), 4);
            refused(Edges::full, x -> x.fill(99), 4);
            range(Edges::full, 1, 99, 1, (x, i) -> x.fill(i));
            BeastCave x = rich();
            fine(x, x.fill(99), 118);
            for (int i = 0; i < 8; i++) {
                x.fill(99);
            }
            fine(x, x.told(4), 910);
            no(x, x.fill(90), 4);
            fine(x, x.fill(89), 999);
        });
    }

    private static void painting() {
        edge("PAINT (PULL 1 to 9) (1).", () -> {
            range(0, 2, (x, i) -> n(x.paint(i, 0, 1)));
            range(0, 1, (x, i) -> n(x.paint(0, i, 1)));
            range(1, 9, (x, i) -> n(x.paint(0, 0, i)));
            BeastCave x = rich();
            yes(x, x.paint(2, 0, 9));
            fine(x, x.wall(2, 0), 0);
            fine(x, x.wall(2, 1), 9);
            // What he has become of it stays.
            fine(x, x.measure(2, 1), 4);
        });
        edge("SCRUB: the BEAST that it was OF (1; 7: it is BARE).", () -> {
            range(0, 2, (x, i) -> x.scrub(i));
            refused(Edges::rich, x -> x.scrub(0), 7);
            BeastCave x = rich();
            fine(x, x.scrub(1), 0);
            fine(x, x.scrub(2), 1);
            no(x, x.scrub(2), 7);
            fine(x, x.told(7), 7);
        });
    }

    private static void more() {
        edge("One VISITOR more (SELF 1 to 60, AT a WALL): his number (1; 4: a seventh).", () -> {
            range(1, 60, (x, i) -> x.come(i, 0));
            range(0, 2, (x, i) -> x.come(1, i));
            refused(Edges::full, x -> x.come(1, 0), 4);
            range(Edges::full, 1, 60, 1, (x, i) -> x.come(i, 0));
            range(Edges::full, 0, 2, 1, (x, i) -> x.come(1, i));
            BeastCave x = rich();
            for (int v = 3; v < 6; v++) {
                fine(x, x.come(v, 1), v);
                fine(x, x.visitor(v, 0), v);
                fine(x, x.visitor(v, 1), 1);
                fine(x, x.visitor(v, 2), 0);
                fine(x, x.visitor(v, 3), 0);
            }
            no(x, x.come(3, 1), 4);
            // The others are as they were.
            int[] most = {6, 0, 4, 0, 0, 0};
            for (int v = 0; v < 6; v++) {
                fine(x, x.visitor(v, 3), most[v]);
            }
            fine(x, x.told(9), 2);
            // Where one stood before all was taken back, a new one has nothing of him.
            x = of(CAVE);
            fine(x, x.mark(), 1);
            fine(x, x.come(1, 1), 3);
            fine(x, x.minute(1), 1);
            fine(x, x.wake(3), 1);
            fine(x, x.lead(3, 0), 1);
            fine(x, x.undo(), 0);
            fine(x, x.come(2, 2), 3);
            fine(x, x.measure(3, 0), 0);
            fine(x, x.visitor(3, 2), 0);
            // He takes no name.
            in("wall w;", y -> fine(y, y.come(1, 0), 0));
        });
        edge("One FIGURE more, over none, OF a BEAST, with STYLES (0 to 9): its number (1; 4: a ninth).", () -> {
            range(0, 1, (x, i) -> x.draw(i, 0, 0));
            range(0, 9, (x, i) -> x.draw(0, i, 0));
            range(0, 9, (x, i) -> x.draw(0, 0, i));
            refused(Edges::full, x -> x.draw(0, 0, 0), 4);
            range(Edges::full, 0, 1, 1, (x, i) -> x.draw(i, 0, 0));
            range(Edges::full, 0, 9, 1, (x, i) -> x.draw(0, i, 0));
            range(Edges::full, 0, 9, 1, (x, i) -> x.draw(0, 0, i));
            BeastCave x = rich();
            for (int f = 3; f < 8; f++) {
                fine(x, x.draw(1, 9, 0), f);
                fine(x, x.figure(f, 3), 0);
                yes(x, x.cover(f, 0));
            }
            no(x, x.draw(1, 9, 0), 4);
            x = of(CAVE);
            fine(x, x.mark(), 1);
            fine(x, x.draw(0, 0, 0), 3);
            yes(x, x.cover(3, 0));
            fine(x, x.undo(), 0);
            fine(x, x.draw(0, 0, 0), 3);
            fine(x, x.figure(3, 3), 0);
        });
        edge("The first FIGURE lies over the second, too (1: one and itself, too; 7: it is told so).", () -> {
            range(0, 2, (x, i) -> n(x.cover(i, i == 1 ? 0 : 1)));
            range(0, 2, (x, i) -> n(x.cover(i == 1 ? 0 : 1, i)));
            for (int f = 0; f < 3; f++) {
                int figure = f;
                refused(Edges::rich, x -> n(x.cover(figure, figure)), 1);
            }
            refused(Edges::rich, x -> n(x.cover(1, 0)), 7);
            refused(Edges::rich, x -> n(x.cover(2, 0)), 7);
            BeastCave x = rich();
            yes(x, x.cover(0, 1));
            no(x, x.cover(0, 1), 7);
            fine(x, x.layers(), 0);
            // What lies below by another one only is not told so.
            x = of(CAVE);
            yes(x, x.cover(2, 1));
            in("beast b;figure f of b style 1 1;figure g of b style 1 1;figure h of b style 1 1;over f g;over g h;", y -> {
                yes(y, y.cover(0, 2));
                no(y, y.cover(0, 2), 7);
                fine(y, y.figure(0, 3), 6);
            });
        });
        edge("ODDS from now on (0 to 16) (1).", () -> {
            range(0, 16, (x, i) -> n(x.rule(i)));
            BeastCave x = rich();
            yes(x, x.rule(16));
            fine(x, x.told(5), 16);
            yes(x, x.rule(0));
            fine(x, x.told(5), 0);
            fraction(x, 1, 2);
        });
    }

    // ---- promises 30 to 34

    private static void ahead() {
        edge("MEASURE of a BEAST in so many MINUTES (0 to 200) (1).", () -> {
            range(0, 2, (x, i) -> x.measureIn(i, 0, 0));
            range(0, 1, (x, i) -> x.measureIn(0, i, 0));
            range(0, 200, (x, i) -> x.measureIn(0, 0, i));
            BeastCave x = rich();
            fine(x, x.measureIn(0, 0, 0), 6);
            fine(x, x.measureIn(0, 0, 1), 9);
            fine(x, x.measureIn(0, 0, 19), 63);
            fine(x, x.measureIn(0, 0, 20), 62);
            fine(x, x.measureIn(0, 0, 81), 1);
            fine(x, x.measureIn(0, 0, 82), 0);
            fine(x, x.measureIn(0, 0, 200), 0);
            // On a way for a minute more.
            fine(x, x.measureIn(1, 0, 1), 0);
            fine(x, x.measureIn(1, 0, 2), 3);
            in("lamp 99;beast b;wall w of b pulls 9;visitor v self 1 at w;", y -> {
                fine(y, y.fill(99), 198);
                fine(y, y.fill(2), 200);
                fine(y, y.measureIn(0, 0, 10), 90);
                fine(y, y.measureIn(0, 0, 11), 99);
                fine(y, y.measureIn(0, 0, 12), 99);
                fine(y, y.measureIn(0, 0, 200), 99);
            });
        });
        edge("What a VISITOR is in so many MINUTES (0 to 200) (1; 6: himself).", () -> {
            range(0, 2, (x, i) -> x.whoIn(i, 0));
            range(0, 200, (x, i) -> x.whoIn(0, i));
            range(0, 200, (x, i) -> x.whoIn(2, i));
            refused(Edges::rich, x -> x.whoIn(1, 0), 6);
            BeastCave x = rich();
            fine(x, x.whoIn(0, 0), 0);
            fine(x, x.whoIn(0, 76), 0);
            no(x, x.whoIn(0, 77), 6);
            no(x, x.whoIn(0, 200), 6);
            // 9 is not above his self, 10 is.
            no(x, x.whoIn(2, 2), 6);
            fine(x, x.whoIn(2, 3), 1);
            in("lamp 99;beast b;wall w of b pulls 9;visitor v self 1 at w;", y -> {
                fine(y, y.fill(4), 103);
                // 99 for the lamp's 103 minutes, 2 in minute 200.
                fine(y, y.whoIn(0, 200), 0);
                no(y, y.whoIn(0, 201), 1);
            });
        });
        edge("In how many MINUTES (0 to 200) a VISITOR is TURNED first (1; 6: in none).", () -> {
            range(0, 2, (x, i) -> x.turnIn(i));
            refused(() -> of(CAVE), x -> x.turnIn(1), 6);
            BeastCave x = rich();
            fine(x, x.turnIn(0), 0);
            fine(x, x.turnIn(1), 3);
            fine(x, x.turnIn(2), 3);
            in("lamp 60;beast b;wall w of b pulls 1;visitor v self 60 at w;visitor u self 59 at w;", y -> {
                no(y, y.turnIn(0), 6);
                fine(y, y.turnIn(1), 60);
                fine(y, y.fill(1), 61);
                fine(y, y.turnIn(0), 61);
            });
        });
        edge("In how many MINUTES (0 to 200) nobody is TURNED first (6: in none).", () -> {
            in("", x -> fine(x, x.freeIn(), 0));
            in("lamp 99;beast b;wall w of b pulls 9;visitor v self 1 at w;", x -> {
                fine(x, x.freeIn(), 0);
                fine(x, x.minute(1), 1);
                // The lamp's 102 minutes, then 98 from 99 down to 1.
                fine(x, x.fill(4), 102);
                fine(x, x.freeIn(), 200);
                fine(x, x.fill(1), 103);
                no(x, x.freeIn(), 6);
            });
            refused(() -> {
                BeastCave x = of("lamp 99;beast b;wall w of b pulls 9;visitor v self 1 at w;");
                x.minute(1);
                x.fill(5);
                return x;
            }, x -> x.freeIn(), 6);
            // Each is free at some time, but not all at the same until later.
            in("lamp 9;beast b;wall w of b pulls 1;wall x of b pulls 9;way w x long 1;visitor v self 4 at w;visitor u self 9 at w;",
                x -> {
                    fine(x, x.minute(5), 1);
                    fine(x, x.lead(1, 1), 1);
                    // v: 5 now, up to 9 in 4, 4 in 9; u: 5 now, 4, 13, 22, 31 in 4, 9 in 26.
                    fine(x, x.freeIn(), 26);
                });
        });
    }

    private static void safety() {
        edge("SAFE (1; 6: the WALL is BARE).", () -> {
            range(0, 2, (x, i) -> x.safe(i, 1));
            range(0, 2, (x, i) -> x.safe(2, i));
            refused(Edges::rich, x -> x.safe(2, 0), 6);
            refused(Edges::rich, x -> x.safe(0, 0), 6);
            refused(Edges::rich, x -> x.safe(3, 0), 1);
            BeastCave x = rich();
            fine(x, x.safe(0, 2), 0);
            fine(x, x.safe(1, 1), 1);
            fine(x, x.safe(1, 2), 2);
            fine(x, x.safe(2, 2), 2);
            fine(x, x.safe(2, 1), 3);
            no(x, x.scrub(0), 7);
            fine(x, x.scrub(1), 0);
            no(x, x.safe(2, 1), 6);
        });
    }

    // ---- promises 35 to 38

    private static void ways() {
        edge("FAR (1; 6: there is no way).", () -> {
            range(0, 2, (x, i) -> x.far(i, 0));
            range(0, 2, (x, i) -> x.far(0, i));
            refused(PromiseEdgeTests::ring, x -> x.far(0, 1), 6);
            refused(PromiseEdgeTests::ring, x -> x.far(1, 0), 6);
            in(RING, x -> {
                fine(x, x.far(0, 0), 0);
                fine(x, x.far(1, 1), 0);
            });
            in("wall a;wall b;wall c;wall d;wall e;wall f;wall g;way g f long 9;way f e long 9;way e d long 9;way d c long 9;"
                + "way c b long 9;way b a long 9;", x -> {
                    fine(x, x.far(0, 6), 54);
                    fine(x, x.far(6, 0), 54);
                    fine(x, x.far(3, 3), 0);
                });
        });
        edge("The set of WALLS to which a WAY goes at once from one (1).", () -> {
            range(0, 2, (x, i) -> x.near(i));
            in(RING, x -> {
                fine(x, x.near(0), 0);
                fine(x, x.near(1), 0);
            });
            in("wall a;wall b;wall c;wall d;wall e;wall f;wall g;way a b long 1;way a c long 1;way d a long 1;way a e long 1;"
                + "way a f long 1;way a g long 1;way g a long 2;", x -> {
                    fine(x, x.near(0), 126);
                    fine(x, x.near(6), 1);
                });
        });
    }

    private static void tours() {
        edge("TOUR: in how many MINUTES he is done (1: more than 5 WALLS, too; 6: there is none, though he is neither TURNED nor on a WAY; 7: he is).",
            () -> {
                range(0, 2, (x, i) -> x.tour(i, 0, 1));
                range(0, 7, (x, i) -> x.tour(2, i, 1));
                range(1, 9, (x, i) -> x.tour(2, 0, i));
                refused(Edges::rich, x -> x.tour(0, 0, 1), 7);
                refused(Edges::rich, x -> x.tour(1, 0, 1), 7);
                // 7 though there is none, 1 ahead of both
                refused(Edges::rich, x -> x.tour(0, 6, 9), 7);
                refused(Edges::rich, x -> x.tour(1, 6, 9), 7);
                refused(Edges::rich, x -> x.tour(0, 8, 1), 1);
                refused(Edges::rich, x -> x.tour(1, 1, 10), 1);
                refused(Edges::rich, x -> x.tour(2, 6, 9), 6);
                refused(() -> of(RING), x -> x.tour(0, 2, 1), 6);
                refused(() -> of(RING), x -> x.tour(0, 1, 1), 6);
                BeastCave x = rich();
                fine(x, x.tour(2, 0, 9), 0);
                fine(x, x.tour(2, 1, 9), 12);
                fine(x, x.tour(2, 4, 2), 2);
                no(x, x.tour(2, 4, 3), 6);
                Supplier<BeastCave> seven = () -> of("wall a;wall b;wall c;wall d;wall e;wall f;wall g;visitor v self 1 at a;"
                    + "way a b long 1;way b c long 1;way c d long 1;way d e long 1;way e f long 1;way f g long 1;");
                range(seven, 0, 31, 1, (y, i) -> i <= 31 ? y.tour(0, i, 1) : y.tour(0, 127, 1));
                refused(seven, y -> y.tour(0, 63, 1), 1);
                refused(seven, y -> y.tour(0, 128, 1), 1);
                x = seven.get();
                fine(x, x.tour(0, 124, 1), 11);
                fine(x, x.tour(0, 31, 9), 49);
            });
        edge("TOUR: the k-th WALL, from 0 on (1: k below 0, too; 6: no such, though he is neither; 7).", () -> {
            range(0, 2, (x, i) -> x.tourAt(i, 0, 1, 0));
            range(0, 7, (x, i) -> x.tourAt(2, i, 1, 0));
            range(1, 9, (x, i) -> x.tourAt(2, 0, i, 0));
            refused(Edges::rich, x -> x.tourAt(2, 1, 1, -1), 1);
            refused(Edges::rich, x -> x.tourAt(0, 1, 1, -1), 1);
            refused(Edges::rich, x -> x.tourAt(0, 1, 1, Integer.MIN_VALUE), 1);
            refused(Edges::rich, x -> x.tourAt(0, 1, 1, 9), 7);
            refused(Edges::rich, x -> x.tourAt(1, 1, 1, 0), 7);
            refused(Edges::rich, x -> x.tourAt(0, 8, 1, 0), 1);
            refused(Edges::rich, x -> x.tourAt(2, 0, 1, 0), 6);
            refused(Edges::rich, x -> x.tourAt(2, 1, 1, 1), 6);
            refused(Edges::rich, x -> x.tourAt(2, 1, 1, Integer.MAX_VALUE), 6);
            refused(Edges::rich, x -> x.tourAt(2, 6, 9, 0), 6);
            BeastCave x = of("wall a;wall b;wall c;wall d;wall e;way e d long 1;way d c long 1;way c b long 1;way b a long 1;"
                + "visitor v self 1 at e;");
            for (int k = 0; k < 5; k++) {
                fine(x, x.tourAt(0, 31, 9, k), 4 - k);
            }
            no(x, x.tourAt(0, 31, 9, 5), 6);
        });
    }

    // ---- promises 39 to 47

    private static void layers() {
        edge("LAYERS: how many orders.", () -> {
            in("", x -> fine(x, x.layers(), 1));
            in("beast b;figure f of b style 1 1;", x -> fine(x, x.layers(), 1));
            in(RING, x -> fine(x, x.layers(), 0));
            BeastCave x = full();
            // g and h over f, of eight.
            fine(x, x.layers(), 40320 / 3);
        });
        edge("The first of these by numbers: the k-th FIGURE, from 0 on (1: k below 0, too; 6: no such).", () -> {
            refused(Edges::rich, x -> x.layerAt(-1), 1);
            refused(Edges::rich, x -> x.layerAt(Integer.MIN_VALUE), 1);
            refused(Edges::rich, x -> x.layerAt(3), 6);
            refused(Edges::rich, x -> x.layerAt(Integer.MAX_VALUE), 6);
            refused(PromiseEdgeTests::ring, x -> x.layerAt(0), 6);
            refused(PromiseEdgeTests::ring, x -> x.layerAt(-1), 1);
            in("", x -> no(x, x.layerAt(0), 6));
            BeastCave x = full();
            yes(x, x.cover(0, 7));
            int[] order = {3, 4, 5, 6, 7, 0, 1, 2};
            for (int k = 0; k < 8; k++) {
                fine(x, x.layerAt(k), order[k]);
            }
            no(x, x.layerAt(8), 6);
        });
        edge("LOW (1; 6: there are no orders).", () -> {
            range(0, 2, (x, i) -> x.low(i));
            refused(PromiseEdgeTests::ring, x -> x.low(0), 6);
            refused(PromiseEdgeTests::ring, x -> x.low(1), 6);
            // 1 ahead of 6
            refused(PromiseEdgeTests::ring, x -> x.low(2), 1);
            refused(PromiseEdgeTests::ring, x -> x.low(-1), 1);
            in("beast b;figure f of b style 1 1;", x -> {
                fine(x, x.low(0), 0);
                fine(x, x.layerAt(0), 0);
                no(x, x.low(1), 1);
            });
            in("beast b;figure f of b style 1 1;figure g of b style 1 1;figure h of b style 1 1;over g f;over f h;", x -> {
                fine(x, x.low(1), 2);
                fine(x, x.low(0), 1);
                fine(x, x.low(2), 0);
            });
            // One that lies in no ring has no place either.
            BeastCave x = ring();
            fine(x, x.draw(0, 0, 0), 2);
            no(x, x.low(2), 6);
            x = full();
            for (int f = 1; f < 8; f++) {
                x.cover(f, f - 1);
            }
            fine(x, x.low(0), 0);
            fine(x, x.low(7), 7);
            fine(x, x.layers(), 1);
        });
    }

    private static void hands() {
        edge("HANDS (1).", () -> {
            range(0, 18, (x, i) -> x.hands(i));
            BeastCave x = full();
            // 1 2; 3 2; 9 9; and five of 4 4
            fine(x, x.hands(0), 4);
            fine(x, x.hands(1), 4);
            fine(x, x.hands(2), 3);
            fine(x, x.hands(3), 3);
            fine(x, x.hands(9), 2);
            fine(x, x.hands(10), 2);
            fine(x, x.hands(14), 2);
            fine(x, x.hands(15), 1);
            fine(x, x.hands(18), 1);
            // Nothing is left of the figures that were.
            for (int many = 0; many < 3; many++) {
                fine(x, x.cave(feed(x, "beast b;" + (many > 0 ? "figure f of b style 0 0;" : "")
                    + (many > 1 ? "figure g of b style 0 0;" : ""))), 0);
                fine(x, x.hand(18), (1 << many) - 1);
                fine(x, x.hands(18), Math.min(many, 1));
                fine(x, x.hand(18), (1 << many) - 1);
            }
        });
        edge("HAND: a set (1).", () -> {
            range(0, 18, (x, i) -> x.hand(i));
            BeastCave x = full();
            fine(x, x.hand(0), 248);
            fine(x, x.hand(2), 248);
            fine(x, x.hand(3), 250);
            fine(x, x.hand(5), 251);
            fine(x, x.hand(14), 251);
            fine(x, x.hand(15), 255);
        });
    }

    private static void rows() {
        String ways = "beast a;beast b;beast c;follows a b weight 1;follows b c weight 9;";
        edge("ROWS (1).", () -> {
            range(1, 12, (x, i) -> x.rows(i));
            in("", x -> fine(x, x.rows(1), 0));
            in(ways, x -> {
                int[] due = {3, 2, 1, 0};
                for (int n = 1; n <= 4; n++) {
                    fine(x, x.rows(n), due[n - 1]);
                }
                fine(x, x.rows(12), 0);
            });
            BeastCave x = rich();
            fine(x, x.rows(12), 377);
        });
        edge("ROWS of n that end with a BEAST (1).", () -> {
            range(1, 12, (x, i) -> x.rowsTo(i, 0));
            range(0, 1, (x, i) -> x.rowsTo(1, i));
            in("", x -> no(x, x.rowsTo(1, 0), 1));
            in(ways, x -> {
                fine(x, x.rowsTo(1, 0), 1);
                fine(x, x.rowsTo(2, 0), 0);
                fine(x, x.rowsTo(3, 2), 1);
                fine(x, x.rowsTo(4, 2), 0);
            });
        });
        edge("LIKELIEST: WEIGHTS multiplied (1; 6: there is no such ROW).", () -> {
            range(1, 8, (x, i) -> x.likeliest(i));
            in("", x -> no(x, x.likeliest(1), 6));
            in(ways, x -> {
                fine(x, x.likeliest(1), 1);
                fine(x, x.likeliest(2), 9);
                fine(x, x.likeliest(3), 9);
                no(x, x.likeliest(4), 6);
                no(x, x.likeliest(8), 6);
                no(x, x.likeliest(9), 1);
            });
            refused(() -> of(ways), x -> x.likeliest(4), 6);
        });
        edge("LIKELIEST: the k-th BEAST, from 0 on (1: k below 0, too; 6: no such).", () -> {
            range(1, 8, (x, i) -> x.likeliestAt(i, 0));
            refused(Edges::rich, x -> x.likeliestAt(3, -1), 1);
            refused(Edges::rich, x -> x.likeliestAt(3, Integer.MIN_VALUE), 1);
            refused(Edges::rich, x -> x.likeliestAt(3, 3), 6);
            refused(Edges::rich, x -> x.likeliestAt(3, Integer.MAX_VALUE), 6);
            refused(Edges::rich, x -> x.likeliestAt(9, 9), 1);
            refused(() -> of(ways), x -> x.likeliestAt(4, 0), 6);
            refused(() -> of(ways), x -> x.likeliestAt(4, -1), 1);
            in(ways, x -> {
                for (int k = 0; k < 3; k++) {
                    fine(x, x.likeliestAt(3, k), k);
                }
                fine(x, x.likeliestAt(2, 0), 1);
                fine(x, x.likeliestAt(1, 0), 0);
                no(x, x.likeliestAt(1, 1), 6);
            });
            in("", x -> no(x, x.likeliestAt(1, 0), 6));
            StringBuilder all = new StringBuilder("beast a;beast b;beast c;beast d;beast e;");
            for (int i = 0; i < 25; i++) {
                all.append("follows ").append((char) ('a' + i / 5)).append(' ').append((char) ('a' + i % 5)).append(" weight 9;");
            }
            in(all.toString(), x -> {
                fine(x, x.rows(12), 244140625);
                fine(x, x.rowsTo(12, 4), 48828125);
                fine(x, x.likeliest(8), 4782969);
                for (int k = 0; k < 8; k++) {
                    fine(x, x.likeliestAt(8, k), 0);
                }
            });
            BeastCave x = rich();
            fine(x, x.likeliestAt(8, 7), 1);
            no(x, x.likeliestAt(8, 8), 6);
        });
    }

    // ---- promises 48 to 50

    /** Tray 0: five twos that can be; tray 1: a number that can't be stands first; tray 3 is missing. */
    private static BeastCave sights() {
        BeastCave x = rich();
        tray(x, 0, 2, 0, 0, 1, 0, 200, 2, 19, 0, 77, 2);
        tray(x, 1, 3, 201, 0, 0, 2, 9);
        return x;
    }

    private static void seen() {
        edge("FITS: how many SELVES (1; 2; 3; 5).", () -> {
            range(PromiseEdgeTests::sights, 0, 2, 1, (x, i) -> x.fits(i, 0, 0));
            range(PromiseEdgeTests::sights, 0, 3, 1, (x, i) -> x.fits(0, i, 0));
            range(PromiseEdgeTests::sights, 0, 20, 1, (x, i) -> x.fits(0, 0, i));
            seenWrongly((x, visitor, tray, n) -> x.fits(visitor, tray, n));
            BeastCave x = sights();
            // 6 now: selves 1 to 5; in 77 minutes 5: not 5 and above.
            fine(x, x.fits(0, 0, 0), 60);
            fine(x, x.fits(0, 0, 1), 5);
            fine(x, x.fits(0, 0, 4), 5);
            fine(x, x.fits(0, 0, 5), 1);
        });
        edge("The least of these (what 0), the greatest (1) (1; 2; 3; 5; 6: none).", () -> {
            range(PromiseEdgeTests::sights, 0, 2, 1, (x, i) -> x.fitsAt(i, 0, 0, 0));
            range(PromiseEdgeTests::sights, 0, 3, 1, (x, i) -> x.fitsAt(0, i, 0, 0));
            range(PromiseEdgeTests::sights, 0, 20, 1, (x, i) -> x.fitsAt(0, 0, i, 0));
            range(PromiseEdgeTests::sights, 0, 1, 1, (x, i) -> x.fitsAt(0, 0, 0, i));
            seenWrongly((x, visitor, tray, n) -> x.fitsAt(visitor, tray, n, 1));
            refused(PromiseEdgeTests::sights, x -> x.fitsAt(0, 3, 0, 2), 1);
            refused(PromiseEdgeTests::sights, x -> x.fitsAt(0, 1, 9, -1), 1);
            // 1 can't be both: himself now, a beast now
            Supplier<BeastCave> none = () -> {
                BeastCave x = rich();
                tray(x, 3, 1, 0, 0, 0, 2, 0, 3);
                return x;
            };
            refused(none, x -> x.fitsAt(0, 3, 2, 0), 6);
            refused(none, x -> x.fitsAt(0, 3, 2, 1), 6);
            refused(none, x -> x.fitsAt(0, 3, 3, 0), 5);
            refused(none, x -> x.fitsAt(0, 3, 4, 0), 3);
            BeastCave x = sights();
            fine(x, x.fitsAt(0, 0, 0, 0), 1);
            fine(x, x.fitsAt(0, 0, 0, 1), 60);
            fine(x, x.fitsAt(0, 0, 1, 0), 1);
            fine(x, x.fitsAt(0, 0, 1, 1), 5);
            fine(x, x.fitsAt(0, 0, 5, 0), 5);
            fine(x, x.fitsAt(0, 0, 5, 1), 5);
            // The last self alone, and the first.
            in("beast b;wall w of b pulls 2;visitor v self 9 at w;", y -> {
                tray(y, 0, 1, 30, 1, 1, 0);
                for (int what = 0; what < 2; what++) {
                    fine(y, y.fitsAt(0, 0, 1, what), 60);
                }
                yes(y, y.pour(0, 2, 0, 0, 2));
                for (int what = 0; what < 2; what++) {
                    fine(y, y.fitsAt(0, 0, 1, what), 1);
                }
            });
        });
        edge("ASK (1; 2; 3; 5; 6: fewer than two).", () -> {
            range(PromiseEdgeTests::sights, 0, 2, 1, (x, i) -> x.ask(i, 0, 0));
            range(PromiseEdgeTests::sights, 0, 3, 1, (x, i) -> x.ask(0, i, 0));
            range(PromiseEdgeTests::sights, 0, 20, 1, (x, i) -> x.ask(0, 0, i));
            seenWrongly((x, visitor, tray, n) -> x.ask(visitor, tray, n));
            refused(PromiseEdgeTests::sights, x -> x.ask(0, 0, 5), 6);
            // Two selves are enough: in 78 minutes he is 4, in 76 he is 6: 4 and 5 are left.
            BeastCave x = rich();
            tray(x, 3, 1, 0, 0, 78, 2, 79, 2);
            fine(x, x.fits(0, 3, 2), 2);
            fine(x, x.ask(0, 3, 2), 0);
            tray(x, 3, 1, 77, 2, 78, 0);
            fine(x, x.fits(0, 3, 2), 0);
            no(x, x.ask(0, 3, 2), 6);
        });
    }

    interface Seen {
        long call(BeastCave x, int visitor, int tray, int n);
    }

    private static void seenWrongly(Seen seen) {
        for (int place = 0; place < 40; place++) {
            BeastCave x = rich();
            tray(x, 3, 2, new long[40]);
            yes(x, x.write(3, place, place % 2 == 0 ? 201 : 3));
            seen.call(x, 0, 3, place / 2);
            due(x.status() == 5 ? 1 : 0, 0);
            no(x, seen.call(x, 0, 3, place / 2 + 1), 5);
            no(x, seen.call(x, 0, 3, 20), 5);
        }
        refused(PromiseEdgeTests::sights, x -> seen.call(x, 0, 3, 0), 2);
        refused(PromiseEdgeTests::sights, x -> seen.call(x, 0, 3, 20), 2);
        refused(PromiseEdgeTests::sights, x -> seen.call(x, 0, 0, 6), 3);
        refused(PromiseEdgeTests::sights, x -> seen.call(x, 0, 1, 1), 5);
        refused(PromiseEdgeTests::sights, x -> seen.call(x, 0, 1, 2), 5);
        // 1 ahead of 2, 3, 5; 3 ahead of 5
        refused(PromiseEdgeTests::sights, x -> seen.call(x, 0, 3, 21), 1);
        refused(PromiseEdgeTests::sights, x -> seen.call(x, 3, 3, 0), 1);
        refused(PromiseEdgeTests::sights, x -> seen.call(x, -1, 1, 9), 1);
        refused(PromiseEdgeTests::sights, x -> seen.call(x, 3, 1, 1), 1);
        refused(PromiseEdgeTests::sights, x -> seen.call(x, 0, 1, 3), 3);
        refused(PromiseEdgeTests::sights, x -> seen.call(x, 0, 1, 20), 3);
    }

    // ---- promises 51 to 54

    private static void games() {
        edge("GAME; STATUS tells NONE from -1 (1).", () -> {
            range(0, 2, (x, i) -> x.game(i, 0));
            range(0, 4, (x, i) -> x.game(0, i));
            BeastCave x = rich();
            fine(x, x.game(0, 0), -1);
            fine(x, x.game(1, 0), 4);
            fine(x, x.game(2, 0), 5);
            // He is turned, so he looks: 9, then by a beast's turn 13, then 17, then 22.
            int[] due = {-1, -4, -8, -12, -17};
            for (int n = 0; n <= 4; n++) {
                fine(x, x.game(0, n), due[n]);
            }
            // On a way for a minute, whatever is led: 4, then by 4 the beast's first.
            fine(x, x.game(1, 1), 4);
            fine(x, x.game(1, 2), 0);
            fine(x, x.told(6), 2);
            fine(x, x.wall(1, 1), 3);
        });
        edge("MOVE (1: turns 0, too; 6: nothing).", () -> {
            range(0, 2, (x, i) -> x.moveOf(i, 1));
            range(1, 4, (x, i) -> x.moveOf(2, i));
            refused(Edges::rich, x -> x.moveOf(0, 1), 6);
            refused(Edges::rich, x -> x.moveOf(1, 4), 6);
            refused(Edges::rich, x -> x.moveOf(0, 0), 1);
            refused(Edges::rich, x -> x.moveOf(1, 5), 1);
            // He looks or goes: to go is better, and wall 0 the first that is as good.
            BeastCave x = rich();
            fine(x, x.moveOf(2, 1), 0);
            // Where nothing is as good as to go, he goes.
            in("wall a;wall b;way a b long 1;visitor v self 1 at a;", y -> fine(y, y.moveOf(0, 4), 1));
            in("wall a;wall b;visitor v self 1 at a;", y -> no(y, y.moveOf(0, 4), 6));
        });
        edge("The FRACTION is FLICKER (n, k 0 to 12) (1).", () -> {
            range(0, 12, (x, i) -> n(x.flicker(i, 1)));
            range(0, 12, (x, i) -> n(x.flicker(1, i)));
            BeastCave x = rich();
            yes(x, x.flicker(12, 12));
            fraction(x, 1, 4096);
            yes(x, x.flicker(12, 11));
            fraction(x, 13, 4096);
            yes(x, x.flicker(12, 0));
            fraction(x, 1, 1);
            yes(x, x.flicker(0, 12));
            fraction(x, 0, 1);
        });
    }

    private static void copies() {
        edge("The greatest MEASURES of all VISITORS come to a TRAY, one by one: how many VISITORS (1; 2; 3).", () -> {
            range(0, 3, (x, i) -> x.copyMost(i));
            refused(Edges::rich, x -> x.copyMost(3), 2);
            Supplier<BeastCave> small = () -> {
                BeastCave x = rich();
                tray(x, 3, 1, 8, 9);
                return x;
            };
            refused(small, x -> x.copyMost(3), 3);
            BeastCave x = rich();
            tray(x, 3, 1, 8, 9, 7);
            fine(x, x.copyMost(3), 3);
            numbers(x, 3, 6, 0, 4);
            fine(x, x.copyMost(0), 3);
            numbers(x, 0, 6, 0, 4, -4, 5, -6);
            x = new BeastCave();
            yes(x, x.tray(0, 0, 0));
            fine(x, x.copyMost(0), 0);
            tray(x, 1, 0, 5);
            fine(x, x.copyMost(1), 0);
            fine(x, x.read(1, 0), 5);
            no(x, x.copyMost(2), 2);
            in("lamp 99;beast b;wall w of b pulls 9;visitor v self 1 at w;", y -> {
                fine(y, y.minute(99), 1);
                yes(y, y.tray(0, 0, 1));
                fine(y, y.copyMost(0), 1);
                fine(y, y.read(0, 0), 99);
                yes(y, y.tray(0, 0, 0));
                no(y, y.copyMost(0), 3);
            });
        });
    }

    // ---- promises 55 to 59

    private static void lives() {
        edge("LIVED: how many STEPS were come to (MISSED ones, too) (1; 6: no DAYS).", () -> {
            for (int seed : new int[] {0, 9999}) {
                BeastCave x = rich();
                x.live(seed);
                due(x.status(), 0);
            }
            for (int seed : new int[] {-1, 10000, Integer.MIN_VALUE, Integer.MAX_VALUE}) {
                refused(Edges::rich, x -> x.live(seed), 1);
                refused(() -> of(CAVE), x -> x.live(seed), 1);
            }
            refused(() -> of(CAVE), x -> x.live(0), 6);
            in(CAVE, "wake p;wake q;lead p x;fill 1;", x -> fine(x, x.live(0), 4));
            in(CAVE, "stop;", x -> fine(x, x.live(0), 1));
            in(CAVE, "stop;any;", x -> fine(x, x.live(0), 1));
        });
        edge("Of live() latest with STATUS 0 (whatever came behind it), what 0: how many were MISSED, 1: MINUTES, 2: how often one was LED, 3: how often one became TURNED in a MINUTE, 4: 1 if a STEP was left to be done (by the 300 alone, not by stop), else 0 (1; 6: there was none).",
            () -> {
                range(0, 4, (x, i) -> x.lived(i));
                refused(() -> of(CAVE), x -> x.lived(0), 6);
                refused(() -> of(CAVE), x -> x.lived(4), 6);
                refused(() -> of(CAVE), x -> x.lived(5), 1);
                refused(() -> of(CAVE), x -> x.lived(-1), 1);
                BeastCave x = of(CAVE, "minute 3;lead p x;lead q x;");
                yes(x, x.mean(0, 1));
                no(x, x.lived(0), 6);
                fine(x, x.mark(), 1);
                fine(x, x.live(0), 3);
                lived(x, 1, 3, 1, 1, 0);
                no(x, x.live(-1), 1);
                lived(x, 1, 3, 1, 1, 0);
                yes(x, x.mean(0, 1));
                lived(x, 1, 3, 1, 1, 0);
                fine(x, x.undo(), 0);
                lived(x, 1, 3, 1, 1, 0);
                fine(x, x.cave(0), 0);
                no(x, x.live(0), 6);
                lived(x, 1, 3, 1, 1, 0);
                fine(x, x.days(0), 0);
                fine(x, x.live(0), 0);
                lived(x, 0, 0, 0, 0, 0);
                // Turned, woken and turned again; turned by nothing but a minute; all visitors count.
                in("beast b;wall w of b pulls 2;visitor v self 1 at w;visitor u self 1 at w;", "minute 1;wake v;minute 3;", y -> {
                    fine(y, y.live(0), 3);
                    lived(y, 0, 4, 0, 3, 0);
                });
                in(CAVE, "loop 99;loop 99;any;end;end;", y -> {
                    fine(y, y.live(0), 300);
                    due(y.lived(4), 1);
                });
                // The latest alone: what was left by an earlier one is not.
                in(CAVE, "loop 99;loop 99;any;end;end;", y -> {
                    fine(y, y.live(0), 300);
                    due(y.lived(4), 1);
                    fine(y, y.days(feed(y, "stop;")), 1);
                    fine(y, y.live(0), 1);
                    lived(y, 0, 0, 0, 0, 0);
                });
                in(CAVE, "loop 99;stop;end;", y -> {
                    fine(y, y.live(0), 2);
                    due(y.lived(4), 0);
                });
            });
    }

    private static void means() {
        edge("The FRACTION is the mean of how many VISITORS are TURNED behind the DAYS, by so many seeds (1 to 20) from one on (1: the last above 9,999, too; 6: no DAYS); all stays as it is.",
            () -> {
                range(1, 20, (x, i) -> n(x.mean(0, i)));
                for (int seed : new int[] {0, 1, 9999}) {
                    BeastCave x = rich();
                    yes(x, x.mean(seed, 1));
                }
                for (int seed : new int[] {-1, 10000, Integer.MIN_VALUE, Integer.MAX_VALUE}) {
                    refused(Edges::rich, x -> n(x.mean(seed, 1)), 1);
                    refused(Edges::rich, x -> n(x.mean(seed, 20)), 1);
                }
                BeastCave x = rich();
                yes(x, x.mean(9980, 20));
                yes(x, x.mean(9998, 2));
                // By 0 to 7 none; by 8, 9 and 10 he is drawn to the wall where he is, and looks on.
                in("beast b;wall a of b pulls 5;wall c;way a c long 1;visitor v self 3 at a;", "any;minute 2;", y -> {
                    yes(y, y.mean(0, 8));
                    fraction(y, 0, 1);
                    yes(y, y.mean(0, 9));
                    fraction(y, 1, 9);
                    yes(y, y.mean(6, 3));
                    fraction(y, 1, 3);
                    yes(y, y.mean(7, 2));
                    fraction(y, 1, 2);
                    yes(y, y.mean(8, 3));
                    fraction(y, 1, 1);
                });
                refused(Edges::rich, y -> n(y.mean(9981, 20)), 1);
                refused(Edges::rich, y -> n(y.mean(9999, 2)), 1);
                refused(() -> of(CAVE), y -> n(y.mean(0, 1)), 6);
                // 1 ahead of 6
                refused(() -> of(CAVE), y -> n(y.mean(0, 21)), 1);
                refused(() -> of(CAVE), y -> n(y.mean(9999, 2)), 1);
                // All stays: but for the fraction nothing tells that it was.
                BeastCave before = rich();
                yes(before, before.flicker(0, 0));
                x = rich();
                yes(x, x.mean(3, 7));
                yes(x, x.flicker(0, 0));
                due(all(x).equals(all(before)) ? 1 : 0, 1);
            });
    }

    private static void marks() {
        edge("A MARK more: how many there are (4).", () -> {
            refused(Edges::full, x -> x.mark(), 4);
            BeastCave x = rich();
            fine(x, x.mark(), 3);
            no(x, x.mark(), 4);
            fine(x, x.undo(), 2);
            fine(x, x.mark(), 3);
            // A new cave leaves them.
            fine(x, x.cave(0), 0);
            no(x, x.mark(), 4);
        });
        edge("All is taken back to the latest MARK: how many there are left (6).", () -> {
            refused(() -> of(CAVE), x -> x.undo(), 6);
            BeastCave x = full();
            for (int left = 2; left >= 0; left--) {
                fine(x, x.undo(), left);
            }
            no(x, x.undo(), 6);
            fine(x, x.told(4), 999);
            fine(x, x.told(6), 9999);
            // Names and days are those of the mark.
            x = of(CAVE, "wake p;");
            fine(x, x.mark(), 1);
            fine(x, x.cave(feed(x, "wall p;visitor z self 1 at p;")), 1);
            fine(x, x.days(feed(x, "wake z;wake z;")), 2);
            no(x, x.days(feed(x, "wake p;")), 9);
            fine(x, x.undo(), 0);
            fine(x, x.live(0), 1);
            fine(x, x.days(feed(x, "wake p;wake r;")), 2);
            no(x, x.days(feed(x, "wake z;")), 9);
            fine(x, x.told(2), 3);
            // Where there were no days there are none.
            x = of(CAVE);
            fine(x, x.mark(), 1);
            fine(x, x.days(feed(x, "any;")), 1);
            fine(x, x.undo(), 0);
            no(x, x.live(0), 6);
        });
    }
}
