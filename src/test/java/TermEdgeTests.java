import java.util.function.Supplier;

/** The edges that Terms 1 to 5 name: a test for each of their sentences. */
public final class TermEdgeTests extends Edges {
    private static final String TWENTY = "lamp 0000000000000000";

    public static void main(String[] args) {
        trays();
        tokens();
        names();
        numbersOfTheCave();
        howMany();
        toldAgain();
        faultsOfCaves();
        aCaveThatIsTaken();
        oneBehindTheOther();
        measures();
        minutes();
        whatIsDone();
        minutesAhead();
        tours();
        figuresAndRows();
        seenAndPlayed();
        textsOfDays();
        faultsOfDays();
        stepsOfDays();
        whatIsMissed();
        loopsAndTheThreeHundred();
        draws();
        marksAndFractions();
        whatHasNoStatus();
        tellEdges();
    }

    // ---- Term 1

    private static void trays() {
        edge("TRAYS 0 to 3 are MISSING at first", () -> {
            for (int t = 0; t < 4; t++) {
                BeastCave x = new BeastCave();
                no(x, x.read(t, 0), 2);
                no(x, x.write(t, 0, 1), 2);
                no(x, x.pour(t, 0, t, 0, 0), 2);
                no(x, x.copyMost(t), 2);
                yes(x, x.tray(t, 0, 1));
                fine(x, x.read(t, 0), 0);
                for (int other = 0; other < 4; other++) {
                    if (other != t) {
                        no(x, x.read(other, 0), 2);
                    }
                }
            }
            BeastCave x = new BeastCave();
            no(x, x.read(-1, 0), 1);
            no(x, x.read(4, 0), 1);
        });
        edge("or rows of 0 to 60 numbers", () -> {
            BeastCave x = new BeastCave();
            yes(x, x.tray(0, 0, 0));
            no(x, x.read(0, 0), 3);
            yes(x, x.tray(0, 0, 1));
            fine(x, x.read(0, 0), 0);
            no(x, x.read(0, 1), 3);
            yes(x, x.tray(0, 0, 60));
            fine(x, x.read(0, 59), 0);
            no(x, x.read(0, 60), 3);
            no(x, x.tray(0, 0, 61), 1);
            no(x, x.tray(0, 0, -1), 1);
            fine(x, x.read(0, 59), 0);
        });
        edge("numbers of 8 bits (sort 0), 16 (1), 32 (2) or 64 (3)", () -> {
            BeastCave x = new BeastCave();
            for (int sort = 0; sort < 4; sort++) {
                long most = Long.MAX_VALUE >> (64 - (8 << sort));
                long least = -most - 1;
                tray(x, sort, sort, most, least, most + 1, least - 1, -1, 2 * most + 1);
                long[] cut = {most, least, least, most, -1, -1};
                for (int i = 0; i < cut.length; i++) {
                    fine(x, x.read(sort, i), cut[i]);
                }
            }
            no(x, x.tray(0, -1, 1), 1);
            no(x, x.tray(0, 4, 1), 1);
        });
    }

    private static void tokens() {
        edge("A CAVE is a TEXT of at most 900 bytes", () -> {
            BeastCave x = new BeastCave();
            due(feed(x, "lamp 3;" + times(886, " ") + "odds 5;"), 900);
            due(x.feed(0, 0, 0, 0, 0), -1);
            no(x, x.cave(901), 1);
            fine(x, x.cave(900), 0);
            fine(x, x.told(5), 5);
            caveFault(times(899, " ") + "A", 1, 899);
            caveFault("lamp 3" + times(894, "\n"), 2, 900);
            x = of(times(112, "        ") + " \n \n");
            fine(x, x.told(4), 60);
        });
        edge("TOKENS, as long as they go", () -> {
            caveFault("lampodds 3;", 2, 0);
            caveFault("lamp 3 4;", 2, 7);
            caveFault("lamp 34 ", 2, 8);
            in("lamp 34;", x -> fine(x, x.told(4), 34));
            in("lamp3;", x -> fine(x, x.told(4), 3));
            in("beast ofa;", x -> fine(x, x.told(0), 1));
        });
        edge("between them blanks (10, 32)", () -> {
            in("\n lamp\n\n  3 \n; \n", x -> fine(x, x.told(4), 3));
            in("lamp 3;odds 5;", x -> fine(x, x.told(5), 5));
            for (char c : new char[] {0, 9, 11, 13, 31, 33, 127, 128, 138, 160, 255}) {
                caveFault("lamp" + c + "3;", 1, 4);
                caveFault("lamp 3;" + c, 1, 7);
            }
        });
        edge("WORDS (small letters)", () -> {
            in("beast a;beast z;beast az;", x -> fine(x, x.told(0), 3));
            for (char c : new char[] {'`', '{', 'A', 'Z', '_', 225}) {
                caveFault("beast " + c + ";", 1, 6);
                caveFault("beast a" + c + ";", 1, 7);
            }
        });
        edge("NUMBERS (1 to 4 digits)", () -> {
            in("lamp 9;", x -> fine(x, x.told(4), 9));
            in("lamp 0009;", x -> fine(x, x.told(4), 9));
            caveFault("lamp 1000;", 4, 5);
            caveFault("lamp 9999;", 4, 5);
            caveFault("lamp 00009;", 1, 5);
            for (char c : new char[] {'/', ':', '-', '+', '.'}) {
                caveFault("lamp " + c + "3;", 1, 5);
                caveFault("lamp 3" + c + ";", 1, 6);
            }
        });
        edge("SIGNS ; < > =", () -> {
            for (char c : new char[] {'<', '>', '='}) {
                caveFault("lamp 3" + c, 2, 6);
            }
            for (char c : new char[] {':', '?', ',', '@'}) {
                caveFault("lamp 3" + c, 1, 6);
            }
        });
        edge("({ } any number of times, [ ] perhaps.)", () -> {
            in("", x -> fine(x, x.told(1), 0));
            in(" ", x -> fine(x, x.told(1), 0));
            in("beast b;wall w;wall x of b pulls 1;", x -> fine(x, x.told(7), 1));
            caveFault("wall w of;", 2, 9);
            caveFault("beast b;wall w of b;", 2, 19);
        });
    }

    private static void names() {
        String reserved = "lamp, odds, beast, wall, of, pulls, way, long, visitor, self, at, figure, style, over, follows,"
            + " weight, minute, lead, wake, fill, any, when, turned, dark, loop, end, stop";
        edge("a WORD of 1 to 8 letters", () -> {
            in("beast b;beast abcdefgh;", x -> fine(x, x.told(0), 2));
            caveFault("beast abcdefghi;", 2, 6);
            in("beast zzzzzzzz;beast zzzzzzz;", x -> fine(x, x.told(0), 2));
            caveFault("beast b;wall w of abcdefghi", 2, 18);
            caveFault("beast zzzzzzzzzzzzzzzzzzzzzzzzzzzzzzzzz", 2, 6);
        });
        edge("that is none of " + reserved + ".", () -> {
            for (String word : reserved.split(", ")) {
                caveFault("beast " + word + ";", 2, 6);
                caveFault("wall " + word + ";", 2, 5);
                caveFault("wall w;visitor " + word + ";", 2, 15);
                caveFault("beast b;figure " + word + ";", 2, 15);
                caveFault("beast b;follows " + word + ";", 2, 16);
                caveFault("wall w;wall x;way w " + word + ";", 2, 20);
                in("beast x" + word + ";", x -> fine(x, x.told(0), 1));
            }
            in("beast lam;beast lamps;beast ends;beast en;beast mp;", x -> fine(x, x.told(0), 5));
        });
        edge("One NAME is of one thing alone.", () -> {
            String[] parts = {"beast a;", "wall a;", "visitor a self 1 at w;", "figure a of b style 1 1;"};
            for (String first : parts) {
                for (String second : parts) {
                    String text = "beast b;wall w;" + first + second;
                    caveFault(text, 3, 15 + first.length() + second.indexOf(" a") + 1);
                }
            }
            in("beast a;wall aa;visitor aaa self 1 at aa;figure aaaa of a style 0 0;", x -> fine(x, x.told(3), 1));
        });
        edge("what a PART names must be told ahead", () -> {
            caveFault("wall w of b pulls 3;beast b;", 3, 10);
            caveFault("wall w;way w x long 1;wall x;", 3, 13);
            caveFault("wall x;way w x long 1;wall w;", 3, 11);
            caveFault("visitor v self 1 at w;wall w;", 3, 20);
            caveFault("figure f of b style 1 1;beast b;", 3, 12);
            caveFault("beast b;figure f of b style 1 1;over f g;figure g of b style 1 1;", 3, 39);
            caveFault("beast a;follows a b weight 1;beast b;", 3, 18);
            caveFault("visitor v self 1 at v;", 3, 20);
            caveFault("wall w of w pulls 1;", 3, 10);
            caveFault("figure f of f style 1 1;", 3, 12);
        });
        edge("All are numbered as they stand", () -> in("wall z;beast y;wall a of y pulls 1;beast b;visitor c self 2 at z;"
            + "visitor aa self 3 at a;", x -> {
                fine(x, x.wall(1, 0), 0);
                fine(x, x.visitor(0, 1), 0);
                fine(x, x.visitor(1, 0), 3);
                fine(x, x.visitor(1, 1), 1);
            }));
    }

    /** The number stands last in the text: from low to high it is taken, the next ones are faults 4 at its place. */
    private static void taken(String text, int low, int high, String behind) {
        for (int number : new int[] {low, high}) {
            of(text + number + behind);
        }
        if (low > 0) {
            caveFault(text + (low - 1) + behind, 4, text.length());
        }
        caveFault(text + (high + 1) + behind, 4, text.length());
        caveFault(text + 9999 + behind, 4, text.length());
        caveFault(text + 10000 + behind, 1, text.length());
    }

    private static void numbersOfTheCave() {
        edge("LAMP (0 to 99; 60 without)", () -> {
            taken("lamp ", 0, 99, ";");
            in("lamp 0;", x -> fine(x, x.told(4), 0));
            in("lamp 99;", x -> fine(x, x.told(4), 99));
            in("odds 3;", x -> fine(x, x.told(4), 60));
        });
        edge("ODDS (0 to 16; 4 without)", () -> {
            taken("odds ", 0, 16, ";");
            in("odds 0;", x -> fine(x, x.told(5), 0));
            in("odds 16;", x -> fine(x, x.told(5), 16));
            in("lamp 3;", x -> fine(x, x.told(5), 4));
        });
        edge("with a PULL (1 to 9), or BARE", () -> {
            taken("beast b;wall w of b pulls ", 1, 9, ";");
            in("beast b;wall w of b pulls 9;wall x of b pulls 1;wall y;", x -> {
                fine(x, x.wall(0, 1), 9);
                fine(x, x.wall(1, 1), 1);
                no(x, x.wall(2, 1), 6);
            });
        });
        edge("so LONG (1 to 9 MINUTES)", () -> {
            taken("wall a;wall b;way a b long ", 1, 9, ";");
            in("wall a;wall b;wall c;way a b long 1;way b c long 9;", x -> {
                fine(x, x.far(0, 1), 1);
                fine(x, x.far(1, 2), 9);
            });
        });
        edge("SELF (1 to 60), AT a WALL", () -> {
            taken("wall w;visitor v self ", 1, 60, " at w;");
            in("wall w;visitor v self 60 at w;visitor u self 1 at w;", x -> {
                fine(x, x.visitor(0, 0), 60);
                fine(x, x.visitor(1, 0), 1);
            });
        });
        edge("two STYLES (0 to 9)", () -> {
            taken("beast b;figure f of b style ", 0, 9, " 5;");
            taken("beast b;figure f of b style 5 ", 0, 9, ";");
            in("beast b;figure f of b style 0 9;", x -> {
                fine(x, x.figure(0, 1), 0);
                fine(x, x.figure(0, 2), 9);
            });
        });
        edge("by a WEIGHT (1 to 9; told again: the latest)", () -> {
            taken("beast b;follows b b weight ", 1, 9, ";");
            in("beast b;beast c;follows b c weight 9;follows c b weight 1;follows b c weight 2;", x -> {
                fine(x, x.weight(0, 1), 2);
                fine(x, x.weight(1, 0), 1);
                fine(x, x.weight(0, 0), 0);
            });
        });
    }

    private static String each(String names, String part) {
        StringBuilder text = new StringBuilder();
        for (char c : names.toCharArray()) {
            text.append(part.replace('?', c));
        }
        return text.toString();
    }

    /** So many are taken; one more is fault 6 at its word, even if what comes behind the word can't be. */
    private static void most(String ahead, String names, String part, int what, int most) {
        String text = ahead + each(names, part);
        if (what >= 0) {
            in(text, x -> fine(x, x.told(what), most));
        } else {
            of(text);
        }
        caveFault(text + part.replace('?', 'z'), 6, text.length());
        caveFault(text + part.replace('?', names.charAt(0)), 6, text.length());
        caveFault(text + part.substring(0, part.indexOf(' ')), 6, text.length());
        caveFault(text + part.substring(0, part.indexOf(' ')) + " 12345", 6, text.length());
    }

    private static void howMany() {
        edge("BEASTS, at most 5", () -> most("", "abcde", "beast ?;", 0, 5));
        edge("WALLS, at most 7", () -> most("", "abcdefg", "wall ?;", 1, 7));
        edge("WAYS, at most 10", () -> most("wall x;wall y;", "abcdefghij", "way x y long 3;", -1, 10));
        edge("VISITORS, at most 6", () -> most("wall w;", "abcdef", "visitor ? self 9 at w;", 2, 6));
        edge("FIGURES, at most 8", () -> most("beast m;", "abcdefgh", "figure ? of m style 1 1;", 3, 8));
        edge("6 a sixth beast, an eighth wall, an 11th way, a seventh visitor, a ninth figure (at that WORD)", () -> {
            // All at their full in one text: 26 names.
            String all = each("abcde", "beast ?;") + each("fghijkl", "wall ? of e pulls 9;") + times(10, "way f l long 9;")
                + each("mnopqr", "visitor ? self 60 at l;") + each("stuvwxyz", "figure ? of e style 9 9;");
            in(all, "when at r l;wake r;end;", x -> {
                fine(x, x.told(2), 6);
                fine(x, x.figure(7, 0), 4);
                fine(x, x.near(6), 1);
            });
            caveFault(all + "beast", 6, all.length());
            caveFault(all + "wall", 6, all.length());
            caveFault(all + "way", 6, all.length());
            caveFault(all + "visitor", 6, all.length());
            caveFault(all + "figure", 6, all.length());
            caveFault(all + "follows a a weight 0;", 4, all.length() + 19);
            caveFault(all + "follows a aa weight 1;", 3, all.length() + 10);
            caveFault(all + "over a z;", 3, all.length() + 5);
        });
    }

    private static void toldAgain() {
        String figures = "beast b;figure f of b style 1 1;figure g of b style 1 1;";
        edge("the first FIGURE lies over the second (told again: nothing more)", () ->
            in(figures + "over f g;over f g;over f g;", x -> {
                fine(x, x.figure(0, 3), 2);
                fine(x, x.figure(1, 3), 0);
                fine(x, x.layers(), 1);
            }));
        edge("5 lamp, odds told already (at that WORD); a way, over of one with itself (at the second NAME)", () -> {
            caveFault("lamp 3;lamp 4;", 5, 7);
            caveFault("lamp 3;odds 4;lamp", 5, 14);
            caveFault("odds 4;odds 100", 5, 7);
            caveFault("wall w;way w w long 3;", 5, 13);
            caveFault("wall w;way w w", 5, 13);
            caveFault(figures + "over f f;", 5, figures.length() + 7);
            in("beast b;follows b b weight 3;", x -> fine(x, x.weight(0, 0), 3));
            // As often as one likes a way lies between the same walls.
            in("wall w;wall x;way w x long 3;way x w long 2;way w x long 4;", x -> fine(x, x.far(0, 1), 2));
        });
    }

    private static void faultsOfCaves() {
        edge("FAULTS, the first along the text", () -> {
            caveFault("lamp 100;odds A", 4, 5);
            caveFault("beast b;beast b;lamp 100;", 3, 14);
            caveFault("lamp 3 odds 17;", 2, 7);
            caveFault("odds 16;lamp 0;lamp A", 5, 15);
            caveFault("wall b;figure f of b style 10 12345", 3, 19);
        });
        edge("(of one TOKEN the least kind)", () -> {
            // 1 ahead of 2
            caveFault("beast 12345;", 1, 6);
            caveFault("12345;", 1, 0);
            caveFault("beast A;", 1, 6);
            caveFault("lamp 3 12345", 1, 7);
            caveFault("lamp 3;A", 1, 7);
            // 1 ahead of 4
            caveFault("lamp 99999;", 1, 5);
            // 2 ahead of 3
            caveFault("beast b;wall w of of pulls", 2, 18);
            caveFault("wall w of abcdefghi pulls", 2, 10);
            caveFault("wall abcdefghi;", 2, 5);
            // 2 ahead of 4
            caveFault("lamp 3 9999", 2, 7);
            caveFault("wall w;visitor v 0", 2, 17);
        });
        edge("1 no TOKEN begins so (a NUMBER of 5 digits and more: at its first)", () -> {
            caveFault("lamp 12345;", 1, 5);
            caveFault("lamp 00000;", 1, 5);
            caveFault(TWENTY + ";", 1, 5);
            caveFault("lamp 3;99999999999999999999", 1, 7);
            caveFault("lamp 3;#", 1, 7);
            caveFault("#", 1, 0);
        });
        edge("2 it can't stand there (the end: the text's length; a WORD of 9 letters and more where a NAME must stand)", () -> {
            String whole = "beast b;wall w of b pulls 3;wall x;way w x long 2;visitor v self 3 at w;figure f of b style 1 2;"
                + "figure g of b style 1 2;over f g;follows b b weight 1;lamp 3;odds 3;";
            // Cut where a part is not at its end, the end is what can't stand there (unless a word or number is cut).
            for (int n = 0; n <= whole.length(); n++) {
                String cut = whole.substring(0, n);
                String next = n < whole.length() ? whole.substring(n, n + 1) : " ";
                boolean isCut = !cut.isEmpty() && !cut.endsWith(" ") && !cut.endsWith(";") && !next.matches("[ ;]");
                if (!isCut && !cut.endsWith(";") && n > 0) {
                    caveFault(cut, 2, n);
                    caveFault(cut + " \n ", 2, n + 3);
                } else if (!isCut) {
                    of(cut);
                }
            }
            BeastCave x = new BeastCave();
            feed(x, "lamp 3;");
            no(x, x.cave(6), 9);
            faultIs(x, 2, 6);
            feed(x, "lamp 3;");
            no(x, x.cave(3), 9);
            faultIs(x, 2, 0);
            feed(x, "lamp 12345;");
            fine(x, x.cave(0), 0);
            caveFault("beast abcdefghi;", 2, 6);
            caveFault("abcdefghijkl", 2, 0);
            caveFault(";", 2, 0);
            caveFault("lamp 3;;", 2, 7);
            caveFault("lamp;", 2, 4);
        });
        edge("3 a new NAME that is taken; a NAME that is no such one told ahead.", () -> {
            caveFault("beast b;beast b;", 3, 14);
            caveFault("wall w;wall w", 3, 12);
            caveFault("wall w;visitor v self 3 at v;", 3, 27);
            caveFault("wall w;visitor v self 3 at x;", 3, 27);
            caveFault("beast b;wall w;way w b", 3, 21);
            caveFault("beast b;wall w;follows b w", 3, 25);
            caveFault("beast b;wall w;over b", 3, 20);
            caveFault("beast b;wall w;follows w b weight 1;", 3, 23);
            caveFault("beast b;wall w;way b w long 1;", 3, 19);
            caveFault("beast b;figure f of b style 1 1;over b f;", 3, 37);
        });
        edge("4 a NUMBER that can't be.", () -> {
            caveFault("lamp 100;", 4, 5);
            caveFault("beast b;wall w of b pulls 0;", 4, 26);
        });
    }

    private static void aCaveThatIsTaken() {
        edge("it is MINUTE 0, all MEASURES are 0; there are no DAYS.", () -> {
            BeastCave x = of(CAVE, "minute 1;");
            fine(x, x.minute(3), 1);
            fine(x, x.lead(1, 1), 1);
            fine(x, x.come(3, 0), 3);
            fine(x, x.cave(feed(x, CAVE)), 3);
            int[] first = {2, 3, 3, 3, 20, 8, 0, 1, 0, 0};
            for (int what = 0; what < first.length; what++) {
                fine(x, x.told(what), first[what]);
            }
            for (int v = 0; v < 3; v++) {
                fine(x, x.measure(v, 0), 0);
                fine(x, x.measure(v, 1), 0);
            }
            no(x, x.live(0), 6);
            fine(x, x.come(3, 0), 3);
            fine(x, x.cave(0), 0);
            for (int what = 0; what < first.length; what++) {
                fine(x, x.told(what), what == 4 ? 60 : what == 5 ? 4 : 0);
            }
        });
    }

    private static void oneBehindTheOther() {
        String small = "beast s;wall m;wall x;wall p;visitor f self 9 at m;figure b of s style 1 1;figure q of s style 9 9;";
        edge("A CAVE that is taken is there in place of that ahead;", () -> {
            // Often enough that nothing of an earlier one can come back.
            BeastCave x = of(CAVE, "any;loop 2;minute 1;end;");
            for (int i = 0; i < 4; i++) {
                fine(x, x.cave(feed(x, CAVE)), 3);
                fine(x, x.days(feed(x, "any;loop 2;minute 1;end;")), 3);
                fine(x, x.layers(), 2);
                for (int v = 0; v < 3; v++) {
                    fine(x, x.visitor(v, 3), 0);
                }
                fine(x, x.told(9), 0);
                fine(x, x.minute(1), 0);
                fine(x, x.lead(0, 0), 1);
                fine(x, x.draw(0, 0, 0), 3);
                yes(x, x.cover(2, 1));
                yes(x, x.cover(3, 0));
            }
            for (int i = 0; i < 3; i++) {
                fine(x, x.cave(feed(x, small)), 1);
                fine(x, x.near(0), 0);
                no(x, x.far(0, 1), 6);
                fine(x, x.weight(0, 0), 0);
                fine(x, x.hands(0), 2);
                fine(x, x.hands(16), 1);
                fine(x, x.layers(), 2);
                fine(x, x.visitor(0, 3), 0);
                no(x, x.live(0), 6);
            }
            due(all(x).equals(all(of(small))) ? 1 : 0, 1);
            in("wall a;wall b;", y -> {
                for (int i = 0; i < 3; i++) {
                    fine(y, y.cave(feed(y, "wall a;wall b;way a b long 1;")), 0);
                }
                for (int i = 0; i < 3; i++) {
                    no(y, y.cave(feed(y, "wall a;way a b long 1;")), 9);
                    faultIs(y, 3, 13);
                    fine(y, y.cave(feed(y, "wall a;beast b;")), 0);
                }
            });
            in("wall x;wall y;" + times(10, "way x y long 3;"), y -> {
                for (int i = 0; i < 3; i++) {
                    fine(y, y.cave(feed(y, "wall x;wall y;" + times(10, "way x y long 4;"))), 0);
                    fine(y, y.far(0, 1), 4);
                }
            });
        });
        edge("Likewise the DAYS: how many STEPS", () -> {
            BeastCave x = of(CAVE, "loop 2;loop 2;any;end;end;");
            for (int i = 0; i < 4; i++) {
                no(x, x.days(feed(x, "loop 2;loop 2;loop 2;")), 9);
                faultIs(x, 2, 21);
                no(x, x.days(feed(x, "end;")), 9);
                faultIs(x, 2, 0);
                fine(x, x.days(feed(x, "loop 1;loop 1;loop 1;end;end;end;")), 3);
                fine(x, x.live(0), 3);
                fine(x, x.days(feed(x, times(30, "any;"))), 30);
                fine(x, x.days(feed(x, "stop;")), 1);
                fine(x, x.live(0), 1);
            }
        });
    }

    // ---- Term 2

    private static void measures() {
        String one = "lamp 99;beast b;beast s;wall w of b pulls 9;visitor v self 60 at w;";
        edge("A VISITOR has a MEASURE of each BEAST (0 to 99).", () -> in(one, x -> {
            fine(x, x.minute(10), 1);
            fine(x, x.measure(0, 0), 90);
            fine(x, x.minute(1), 1);
            fine(x, x.measure(0, 0), 99);
            fine(x, x.minute(1), 1);
            fine(x, x.measure(0, 0), 99);
            fine(x, x.measure(0, 1), 0);
        }));
        edge("TURNED is one whose greatest MEASURE is above his SELF", () ->
            in("beast b;wall w of b pulls 1;visitor v self 1 at w;visitor u self 2 at w;visitor t self 60 at w;", x -> {
                fine(x, x.minute(1), 0);
                no(x, x.who(0), 6);
                fine(x, x.minute(1), 1);
                fine(x, x.who(0), 0);
                no(x, x.who(1), 6);
                fine(x, x.minute(1), 2);
                fine(x, x.minute(57), 2);
                fine(x, x.measure(2, 0), 60);
                no(x, x.who(2), 6);
                fine(x, x.fill(1), 1);
                fine(x, x.minute(1), 3);
                fine(x, x.who(2), 0);
            }));
        edge("he is that BEAST, of several as great the first", () ->
            in("beast a;beast b;beast c;wall w of c pulls 5;visitor v self 3 at w;", x -> {
                fine(x, x.minute(1), 1);
                fine(x, x.who(0), 2);
                yes(x, x.paint(0, 1, 4));
                fine(x, x.minute(1), 1);
                fine(x, x.measure(0, 1), 4);
                fine(x, x.measure(0, 2), 4);
                fine(x, x.who(0), 1);
                yes(x, x.paint(0, 0, 3));
                fine(x, x.minute(1), 0);
                no(x, x.who(0), 6);
            }));
    }

    private static void minutes() {
        String one = "beast b;beast s;wall w of b pulls 9;visitor v self 60 at w;";
        edge("A MINUTE goes by (to 9,999)", () -> in(one, x -> {
            for (int i = 0; i < 41; i++) {
                x.minute(240);
            }
            fine(x, x.minute(158), 0);
            fine(x, x.told(6), 9998);
            no(x, x.minute(2), 4);
            fine(x, x.minute(1), 0);
            fine(x, x.told(6), 9999);
            no(x, x.minute(1), 4);
            fine(x, x.told(6), 9999);
        }));
        edge("each other one who is AT a WALL OF a BEAST, if the LAMP burns, LOOKS", () -> {
            in("lamp 0;" + one, x -> {
                fine(x, x.minute(1), 0);
                fine(x, x.measure(0, 0), 0);
            });
            in("lamp 1;" + one, x -> {
                fine(x, x.minute(1), 0);
                fine(x, x.measure(0, 0), 9);
                fine(x, x.minute(1), 0);
                fine(x, x.measure(0, 0), 8);
            });
            in(one, x -> {
                fine(x, x.scrub(0), 0);
                fine(x, x.minute(1), 0);
                fine(x, x.measure(0, 0), 0);
            });
        });
        edge("his MEASURE of that BEAST is PULL more (99 at most), those of all others 1 less (0 at least)", () ->
            in("lamp 99;" + one, x -> {
                fine(x, x.minute(11), 1);
                yes(x, x.paint(0, 1, 2));
                fine(x, x.minute(2), 1);
                fine(x, x.measure(0, 0), 97);
                fine(x, x.measure(0, 1), 4);
                yes(x, x.paint(0, 0, 2));
                fine(x, x.minute(1), 1);
                fine(x, x.measure(0, 0), 99);
                fine(x, x.minute(2), 1);
                fine(x, x.measure(0, 0), 99);
                fine(x, x.measure(0, 1), 1);
                fine(x, x.minute(1), 1);
                fine(x, x.measure(0, 1), 0);
                fine(x, x.minute(1), 1);
                fine(x, x.measure(0, 1), 0);
            }));
        edge("of each other VISITOR (who is on a WAY, too) all MEASURES are 1 less", () ->
            in("beast b;wall w of b pulls 2;wall x of b pulls 9;way w x long 2;visitor v self 60 at w;", x -> {
                fine(x, x.minute(2), 0);
                fine(x, x.lead(0, 1), 2);
                fine(x, x.minute(1), 0);
                fine(x, x.measure(0, 0), 3);
                fine(x, x.visitor(0, 2), 1);
                // He comes there in this minute, and looks from the next on.
                fine(x, x.minute(1), 0);
                fine(x, x.measure(0, 0), 2);
                fine(x, x.visitor(0, 2), 0);
                fine(x, x.minute(1), 0);
                fine(x, x.measure(0, 0), 11);
                fine(x, x.visitor(0, 2), 0);
                fine(x, x.scrub(1), 0);
                fine(x, x.minute(10), 0);
                fine(x, x.measure(0, 0), 1);
                fine(x, x.minute(2), 0);
                fine(x, x.measure(0, 0), 0);
            }));
        edge("2. if the LAMP burns, it does for a MINUTE less.", () -> in("lamp 2;" + one, x -> {
            fine(x, x.minute(1), 0);
            fine(x, x.told(4), 1);
            fine(x, x.minute(1), 0);
            fine(x, x.told(4), 0);
            fine(x, x.minute(1), 0);
            fine(x, x.told(4), 0);
        }));
    }

    private static void whatIsDone() {
        edge("a VISITOR who is not TURNED, not on a WAY, goes along the shortest WAY from his WALL to another one", () ->
            in("beast b;wall a;wall c of b pulls 2;wall d;way a c long 9;way c a long 4;way c a long 5;way c d long 1;"
                + "visitor v self 2 at a;", x -> {
                    no(x, x.lead(0, 0), 7);
                    no(x, x.lead(0, 2), 7);
                    fine(x, x.lead(0, 1), 4);
                    no(x, x.lead(0, 0), 7);
                    no(x, x.lead(0, 2), 7);
                    fine(x, x.minute(3), 0);
                    no(x, x.lead(0, 2), 7);
                    // As great as himself he may still be led.
                    fine(x, x.minute(2), 0);
                    fine(x, x.measure(0, 0), 2);
                    fine(x, x.lead(0, 0), 4);
                    fine(x, x.minute(4), 0);
                    fine(x, x.lead(0, 1), 4);
                    fine(x, x.minute(6), 1);
                    no(x, x.lead(0, 0), 7);
                }));
        edge("WAKE: all his MEASURES are halved, rounded down.", () ->
            in("lamp 99;beast b;beast s;wall w of b pulls 9;visitor v self 60 at w;", x -> {
                fine(x, x.minute(11), 1);
                yes(x, x.paint(0, 1, 1));
                fine(x, x.minute(1), 1);
                int[] halves = {49, 24, 12, 6, 3, 1, 0};
                for (int half : halves) {
                    fine(x, x.wake(0), half);
                    fine(x, x.measure(0, 0), half);
                    fine(x, x.measure(0, 1), 0);
                }
                no(x, x.wake(0), 7);
            }));
        edge("FILL: the LAMP burns so much longer (999 at most).", () -> in("lamp 99;", x -> {
            for (int i = 2; i <= 10; i++) {
                fine(x, x.fill(99), 99 * i);
            }
            no(x, x.fill(10), 4);
            fine(x, x.fill(9), 999);
            no(x, x.fill(1), 4);
            fine(x, x.minute(1), 0);
            fine(x, x.fill(1), 999);
        }));
        edge("PAINT: a WALL is OF a BEAST with a PULL; SCRUB: it is BARE.", () -> in("beast b;beast s;wall w;", x -> {
            no(x, x.scrub(0), 7);
            yes(x, x.paint(0, 1, 9));
            yes(x, x.paint(0, 0, 1));
            fine(x, x.wall(0, 0), 0);
            fine(x, x.wall(0, 1), 1);
            fine(x, x.scrub(0), 0);
            no(x, x.wall(0, 0), 6);
            no(x, x.scrub(0), 7);
        }));
    }

    // ---- Term 3

    private static void minutesAhead() {
        edge("All ahead is as only MINUTES go by (MINUTE 9,999 does not matter).", () ->
            in("lamp 0;beast b;wall w of b pulls 2;visitor v self 3 at w;", x -> {
                toTheLastMinute(x);
                fine(x, x.fill(99), 99);
                no(x, x.minute(1), 4);
                fine(x, x.measureIn(0, 0, 3), 6);
                fine(x, x.whoIn(0, 2), 0);
                fine(x, x.turnIn(0), 2);
                fine(x, x.freeIn(), 0);
                fine(x, x.safe(0, 0), 1);
                fine(x, x.tour(0, 1, 1), 1);
                fine(x, x.game(0, 4), 3 - 2 - 3 - 3 - 4);
                tray(x, 0, 1, 200, 1);
                fine(x, x.fits(0, 0, 1), 60);
                fine(x, x.told(6), 9999);
                fine(x, x.told(4), 99);
                fine(x, x.measure(0, 0), 0);
            }));
        edge("so that he is not TURNED behind any of them (0 if he is TURNED now)", () ->
            in("lamp 0;beast b;beast s;wall w of b pulls 1;wall x of s pulls 9;way w x long 9;"
                + "visitor v self 60 at w;visitor u self 1 at w;visitor t self 9 at x;", x -> {
                    fine(x, x.safe(0, 0), 60);
                    fine(x, x.safe(0, 1), 6);
                    fine(x, x.safe(1, 0), 1);
                    fine(x, x.safe(1, 1), 0);
                    fine(x, x.safe(2, 1), 1);
                    // On a way, too: from now on.
                    fine(x, x.lead(0, 1), 9);
                    fine(x, x.safe(0, 0), 60);
                    fine(x, x.fill(99), 99);
                    fine(x, x.minute(1), 0);
                    fine(x, x.safe(1, 0), 0);
                    fine(x, x.minute(1), 2);
                    fine(x, x.safe(1, 0), 0);
                    fine(x, x.safe(2, 0), 0);
                }));
    }

    private static void tours() {
        edge("by the least LONG of all WAYS on one way together", () -> {
            in("wall a;wall b;wall c;way b a long 1;way a c long 1;way b c long 3;", x -> {
                fine(x, x.far(1, 2), 2);
                fine(x, x.far(0, 0), 0);
            });
            in("wall a;wall b;wall c;way b a long 1;way a c long 2;way b c long 3;", x -> fine(x, x.far(1, 2), 3));
            in("wall a;wall b;wall c;way b a long 1;way a c long 3;way b c long 3;", x -> fine(x, x.far(2, 1), 3));
            in("wall a;wall b;wall c;wall d;wall e;wall f;wall g;way g a long 1;way a f long 1;", x -> {
                fine(x, x.far(6, 5), 2);
                no(x, x.far(6, 4), 6);
            });
        });
        String line = "wall a;wall b;wall c;wall d;wall e;wall f;way a b long 1;way b c long 2;way c d long 3;way d e long 4;"
            + "way e f long 5;visitor v self 1 at a;";
        edge("by a set of at most 5 WALLS", () -> in(line, x -> {
            fine(x, x.tour(0, 62, 1), 20);
            fine(x, x.tour(0, 31, 1), 15);
            no(x, x.tour(0, 63, 1), 1);
            fine(x, x.tour(0, 0, 9), 0);
            no(x, x.tour(0, 64, 1), 1);
            no(x, x.tour(0, 65, 1), 1);
            no(x, x.tour(0, -1, 1), 1);
            no(x, x.tour(0, Integer.MIN_VALUE, 1), 1);
            no(x, x.tour(0, 1 << 30, 1), 1);
        }));
        edge("m MINUTES (1 to 9) AT each", () -> in(line, x -> {
            fine(x, x.tour(0, 3, 1), 3);
            fine(x, x.tour(0, 3, 9), 19);
            no(x, x.tour(0, 3, 0), 1);
            no(x, x.tour(0, 3, 10), 1);
        }));
        edge("first m MINUTES AT the first (if he is there: at once)", () -> in(line, x -> {
            fine(x, x.tour(0, 1, 4), 4);
            fine(x, x.tour(0, 2, 4), 5);
            // Back to where he is: the other one first is later.
            fine(x, x.tourAt(0, 3, 4, 0), 0);
        }));
        edge("so that he is TURNED behind no MINUTE", () -> {
            String two = "lamp 0;beast b;wall x of b pulls 3;wall y of b pulls 3;way x y long 1;";
            in(two + "visitor v self 5 at x;", x -> fine(x, x.tour(0, 3, 1), 3));
            in(two + "visitor v self 4 at x;", x -> no(x, x.tour(0, 3, 1), 6));
            in(two + "visitor v self 3 at x;", x -> fine(x, x.tour(0, 1, 1), 1));
            in(two + "visitor v self 3 at x;", x -> no(x, x.tour(0, 1, 2), 6));
            in(two + "visitor v self 2 at x;", x -> no(x, x.tour(0, 1, 1), 6));
            in(two + "visitor v self 1 at x;", x -> fine(x, x.tour(0, 0, 1), 0));
        });
        edge("of several the first by numbers. (On a WAY by FAR, too, each MINUTE takes 1 from all MEASURES.)", () ->
            in("wall a;wall b;wall c;way a b long 2;way a c long 2;way b c long 3;visitor v self 5 at a;", x -> {
                fine(x, x.tour(0, 6, 1), 7);
                fine(x, x.tourAt(0, 6, 1, 0), 1);
                fine(x, x.tourAt(0, 6, 1, 1), 2);
            }));
    }

    private static void figuresAndRows() {
        String eight = each("mnopqrst", "figure ? of b style 0 0;");
        edge("all orders of the FIGURES, from the first painted on, in which each comes behind all over which it lies", () -> {
            in("", x -> fine(x, x.layers(), 1));
            in("beast b;" + eight, x -> fine(x, x.layers(), 40320));
            in("beast b;" + eight + "over m n;over n m;", x -> fine(x, x.layers(), 0));
            in("beast b;" + eight + "over m n;over n o;over o p;over p q;over q r;over r s;over s t;", x -> {
                fine(x, x.layers(), 1);
                fine(x, x.layerAt(0), 7);
                fine(x, x.layerAt(7), 0);
                fine(x, x.low(0), 7);
                fine(x, x.low(7), 0);
            });
        });
        edge("HANDS by n (0 to 18): the fewest sets", () -> {
            in("beast b;" + eight, x -> {
                fine(x, x.hands(0), 1);
                fine(x, x.hand(0), 255);
            });
            in("", x -> fine(x, x.hands(18), 0));
            in("beast b;figure m of b style 0 0;figure n of b style 9 9;figure o of b style 0 9;", x -> {
                fine(x, x.hands(8), 3);
                fine(x, x.hands(9), 2);
                fine(x, x.hands(17), 2);
                fine(x, x.hands(18), 1);
                no(x, x.hands(19), 1);
                no(x, x.hands(-1), 1);
            });
            in("beast b;" + each("mn", "figure ? of b style 0 0;") + each("op", "figure ? of b style 2 0;")
                + each("qr", "figure ? of b style 4 0;") + each("st", "figure ? of b style 6 0;"), x -> {
                    fine(x, x.hands(0), 4);
                    fine(x, x.hands(2), 2);
                    fine(x, x.hands(5), 2);
                    fine(x, x.hands(6), 1);
                });
        });
        edge("the greatest set of FIGURES of which this is so of any two, of several the least as a number", () -> {
            in("beast b;figure m of b style 0 0;figure n of b style 9 9;figure o of b style 0 9;", x -> {
                fine(x, x.hand(0), 1);
                fine(x, x.hand(8), 1);
                fine(x, x.hand(9), 5);
                fine(x, x.hand(17), 5);
                fine(x, x.hand(18), 7);
            });
            in("", x -> fine(x, x.hand(0), 0));
        });
        String all = "beast a;beast b;beast c;beast d;beast e;";
        edge("ROWS of n (1 to 12)", () -> in(all + "follows a b weight 9;follows b a weight 1;", x -> {
            no(x, x.rows(0), 1);
            fine(x, x.rows(1), 5);
            fine(x, x.rows(2), 2);
            fine(x, x.rows(12), 2);
            no(x, x.rows(13), 1);
        }));
        edge("LIKELIEST of n (1 to 8)", () -> in(all + "follows e e weight 9;", x -> {
            no(x, x.likeliest(0), 1);
            fine(x, x.likeliest(1), 1);
            fine(x, x.likeliest(8), 4782969);
            no(x, x.likeliest(9), 1);
        }));
        edge("the greatest (1 for one BEAST), of several the first by numbers", () ->
            in(all + "follows c d weight 2;follows b e weight 2;follows b d weight 2;", x -> {
                fine(x, x.likeliest(1), 1);
                fine(x, x.likeliestAt(1, 0), 0);
                fine(x, x.likeliest(2), 2);
                fine(x, x.likeliestAt(2, 0), 1);
                fine(x, x.likeliestAt(2, 1), 3);
                no(x, x.likeliest(3), 6);
            }));
    }

    private static void seenAndPlayed() {
        String one = "lamp 99;beast b;beast s;wall w of s pulls 9;visitor v self 60 at w;";
        edge("by twos a number of MINUTES (0 to 200) and a BEAST (as many as there are BEASTS: himself)", () -> in(one, x -> {
            long[][] can = {{0, 2}, {200, 2}, {0, 0}, {0, 1}, {200, 0}};
            for (long[] two : can) {
                tray(x, 0, 3, two);
                x.fits(0, 0, 1);
                due(x.status(), 0);
            }
            long[][] cannot = {{-1, 2}, {201, 2}, {0, -1}, {0, 3}, {Long.MIN_VALUE, 0}, {0, Long.MAX_VALUE}, {1L << 32, 1L << 32}};
            for (long[] two : cannot) {
                tray(x, 0, 3, two);
                no(x, x.fits(0, 0, 1), 5);
                no(x, x.fitsAt(0, 0, 1, 0), 5);
                no(x, x.ask(0, 0, 1), 5);
            }
            in("wall w;visitor v self 60 at w;", y -> {
                tray(y, 0, 3, 200, 0, 0, 1);
                fine(y, y.fits(0, 0, 1), 60);
                no(y, y.fits(0, 0, 2), 5);
            });
        }));
        edge("the first n (0 to 20) twos", () -> in(one, x -> {
            yes(x, x.tray(0, 0, 40));
            yes(x, x.tray(1, 0, 39));
            yes(x, x.tray(2, 0, 0));
            for (int i = 1; i < 40; i += 2) {
                yes(x, x.write(0, i, 2));
            }
            fine(x, x.fits(0, 0, 20), 60);
            no(x, x.fits(0, 1, 20), 3);
            yes(x, x.write(0, 38, 7));
            yes(x, x.write(0, 39, 1));
            fine(x, x.fits(0, 0, 19), 60);
            fine(x, x.fits(0, 0, 20), 60);
            yes(x, x.write(0, 39, 9));
            fine(x, x.fits(0, 0, 19), 60);
            no(x, x.fits(0, 0, 20), 5);
            no(x, x.fits(0, 0, 21), 1);
            no(x, x.fits(0, 0, -1), 1);
            fine(x, x.fits(0, 2, 0), 60);
            no(x, x.fits(0, 2, 1), 3);
        }));
        edge("which SELVES (1 to 60), in place of his own", () -> in(one, x -> {
            tray(x, 0, 3, 6, 2);
            fine(x, x.fits(0, 0, 1), 7);
            fine(x, x.fitsAt(0, 0, 1, 0), 54);
            fine(x, x.fitsAt(0, 0, 1, 1), 60);
            tray(x, 0, 3, 6, 1);
            fine(x, x.fits(0, 0, 1), 53);
            fine(x, x.fitsAt(0, 0, 1, 0), 1);
            fine(x, x.fitsAt(0, 0, 1, 1), 53);
            tray(x, 0, 3, 7, 1);
            fine(x, x.fits(0, 0, 1), 60);
        }));
        edge("ASK: the number of MINUTES (0 to 60) by which these are parted the best", () -> {
            // Two selves are left, 19 and 20; he is 20 in minute 60, and 19 in minute 61.
            in(CAVE, x -> {
                tray(x, 0, 1, 6, 2, 7, 0, 61, 2);
                fine(x, x.ask(0, 0, 3), 60);
            });
            in(one, x -> {
                tray(x, 0, 3, 0, 2);
                // In 3 minutes 26 of the 60 are the beast, in 4 minutes 35.
                fine(x, x.ask(0, 0, 1), 3);
                fine(x, x.scrub(0), 1);
                fine(x, x.ask(0, 0, 1), 0);
            });
            // 18 and 19 are left; up to minute 60 he is never 19, in minute 61 he would be.
            in("lamp 8;beast b;wall w of b pulls 9;visitor v self 60 at w;", x -> {
                tray(x, 0, 3, 2, 1, 60, 0);
                fine(x, x.fits(0, 0, 2), 2);
                fine(x, x.ask(0, 0, 2), 0);
            });
            // 54 to 60 are left: in 6 minutes he is 54, in 7 he is 63.
            in("lamp 99;beast b;wall w of b pulls 9;visitor v self 60 at w;", x -> {
                tray(x, 0, 3, 6, 1);
                fine(x, x.fits(0, 0, 1), 7);
                fine(x, x.ask(0, 0, 1), 0);
            });
        });
        edge("the most of them by which he is the same are the fewest; of several the least.", () ->
            // He is 1, 2, 3, 2, 1, 0: of selves 1 to 3 minutes 2 and 4 part one, 3 parts two.
            in("lamp 3;beast b;wall w of b pulls 1;visitor v self 9 at w;", x -> {
                yes(x, x.tray(0, 0, 0));
                fine(x, x.ask(0, 0, 0), 3);
                tray(x, 0, 0, 3, 0);
                fine(x, x.fits(0, 0, 1), 2);
                fine(x, x.ask(0, 0, 1), 2);
            }));
        edge("GAME of a VISITOR and n turns (0 to 4)", () -> in("beast b;wall w of b pulls 1;visitor v self 9 at w;", x -> {
            int[] due = {9, 8, 6, 4, 1};
            for (int n = 0; n <= 4; n++) {
                fine(x, x.game(0, n), due[n]);
            }
            no(x, x.game(0, 5), 1);
            no(x, x.game(0, -1), 1);
        }));
        edge("by turns, the guide first, he LEADS him to a WALL (if it can be) or does nothing", () -> {
            String two = "beast b;wall w of b pulls 2;wall x of b pulls 9;way w x long 1;";
            // As great as himself he may be led, and is one less then.
            in(two + "visitor v self 2 at w;", x -> {
                fine(x, x.minute(1), 0);
                fine(x, x.game(0, 1), 1);
                fine(x, x.moveOf(0, 1), 1);
                fine(x, x.minute(1), 1);
                fine(x, x.game(0, 1), 2 - 6);
                no(x, x.moveOf(0, 1), 6);
            });
            // To x would be 9 and 18; at w he is 2, 5, and turned by then: 8.
            in(two + "visitor v self 1 at w;", x -> {
                fine(x, x.game(0, 3), 1 - 8);
                no(x, x.moveOf(0, 3), 6);
            });
            // On a way nothing leads him; where he comes to in a guide's turn he looks in the beast's.
            in("beast b;wall w;wall x of b pulls 5;way w x long 3;visitor v self 9 at w;", x -> {
                fine(x, x.lead(0, 1), 3);
                fine(x, x.game(0, 3), 9);
                fine(x, x.game(0, 4), 9 - 7);
                no(x, x.moveOf(0, 4), 6);
                fine(x, x.minute(1), 0);
                // Now he comes there in the beast's turn, and is led away in the next.
                fine(x, x.game(0, 4), 9);
                fine(x, x.minute(1), 0);
                fine(x, x.game(0, 2), 9 - 6);
            });
            // The lamp burns for a minute more.
            in("lamp 1;beast b;wall w of b pulls 2;visitor v self 1 at w;", x -> {
                fine(x, x.game(0, 1), -1);
                fine(x, x.game(0, 2), 0);
                fine(x, x.game(0, 3), 1);
                fine(x, x.game(0, 4), 1);
            });
            in("lamp 0;beast b;wall w of b pulls 2;visitor v self 1 at w;", x -> fine(x, x.game(0, 4), 1));
        });
        edge("MOVE: the guide's first WALL, of all that are as good the first; nothing comes last.", () -> {
            String three = "beast b;wall w;wall x of b pulls 9;wall y;wall z;wall a;wall c;wall d;way w x long 1;";
            // x is the worst: behind a turn of the beast he is 9.
            in(three + "visitor v self 3 at w;", x -> {
                fine(x, x.moveOf(0, 1), 1);
                no(x, x.moveOf(0, 2), 6);
                fine(x, x.game(0, 2), 3);
            });
            in(three + "way w z long 1;way w y long 1;visitor v self 3 at w;", x -> {
                fine(x, x.moveOf(0, 2), 2);
                fine(x, x.game(0, 2), 3);
            });
            in("beast b;wall w of b pulls 9;wall x of b pulls 8;wall y of b pulls 7;way w x long 1;way w y long 1;"
                + "visitor v self 3 at w;", x -> {
                    // 9 first for nothing, 9 by x, 8 by y.
                    fine(x, x.game(0, 2), 3 - 8);
                    fine(x, x.moveOf(0, 2), 2);
                });
        });
        edge("the beast makes the PULL of a WALL OF a BEAST 1 more (9 at most), or does nothing", () -> {
            in("beast b;wall w of b pulls 9;visitor v self 9 at w;", x -> fine(x, x.game(0, 2), -9));
            in("beast b;wall w of b pulls 8;visitor v self 9 at w;", x -> {
                fine(x, x.game(0, 2), 9 - 8 - 9);
                fine(x, x.game(0, 4), 9 - 8 - 9 - 9 - 9);
            });
            in("beast b;wall w;visitor v self 9 at w;", x -> fine(x, x.game(0, 4), 9));
        });
        edge("each of n MINUTES (0 to 12) is lit by ODDS sixteenths: the odds that k or more are", () -> in("odds 1;", x -> {
            yes(x, x.flicker(12, 12));
            fraction(x, 1, 1L << 48);
            yes(x, x.flicker(12, 0));
            fraction(x, 1, 1);
            yes(x, x.flicker(0, 0));
            fraction(x, 1, 1);
            yes(x, x.flicker(0, 12));
            fraction(x, 0, 1);
            yes(x, x.flicker(11, 12));
            fraction(x, 0, 1);
            no(x, x.flicker(13, 0), 1);
            no(x, x.flicker(0, 13), 1);
            fraction(x, 0, 1);
        }));
    }

    // ---- Term 4

    private static void textsOfDays() {
        edge("DAYS are a TEXT of at most 300 bytes, of such TOKENS (none at first).", () -> {
            BeastCave x = new BeastCave();
            no(x, x.live(0), 6);
            no(x, x.mean(0, 1), 6);
            due(feed(x, times(296, " ") + "any; "), 301);
            no(x, x.days(301), 1);
            fine(x, x.days(300), 1);
            fine(x, x.live(0), 1);
            feed(x, times(300, " "));
            fine(x, x.days(300), 0);
            daysFault(times(299, " ") + "A", 1, 299);
            daysFault("wake" + times(296, " "), 2, 300);
        });
        edge("DAYS: {STEP}.", () -> in(CAVE, "minute 1;", x -> {
            fine(x, x.days(0), 0);
            fine(x, x.live(0), 0);
            fine(x, x.told(6), 0);
        }));
        edge("or when TEST ; {STEP} end ; or loop NUMBER ; {STEP} end ;", () -> in(CAVE, "when dark;end;loop 3;end;", x -> {
            fine(x, x.live(0), 2);
            lived(x, 0, 0, 0, 0, 0);
        }));
    }

    /** The number stands last in the text of days: as taken(), there. */
    private static void takenInDays(String text, int low, int high, String behind) {
        for (int number : new int[] {low, high}) {
            of(CAVE, text + number + behind);
        }
        if (low > 0) {
            daysFault(text + (low - 1) + behind, 4, text.length());
        }
        daysFault(text + (high + 1) + behind, 4, text.length());
        daysFault(text + 9999 + behind, 4, text.length());
        daysFault(text + 10000 + behind, 1, text.length());
    }

    private static void faultsOfDays() {
        edge("FAULTS: 1, 2 as above (an end without a beginning; the text's end ahead of an end: 2).", () -> {
            daysFault("end;", 2, 0);
            daysFault("any;end;", 2, 4);
            daysFault("when dark;end;end;", 2, 14);
            daysFault("loop 2;end;end;", 2, 11);
            daysFault("loop 2;", 2, 7);
            daysFault("loop 2; any; \n", 2, 14);
            daysFault("when dark;loop 2;end;", 2, 21);
            daysFault("when dark;loop 2;end;end", 2, 24);
            daysFault("when dark", 2, 9);
            daysFault("minute 12345;", 1, 7);
            daysFault("minute abcdefghi;", 2, 7);
            daysFault("wake abcdefghi;", 2, 5);
            daysFault("wake end;", 2, 5);
            daysFault("when lamp p;", 2, 5);
            daysFault("when self p ;", 2, 12);
            daysFault("when self p ! 3;", 1, 12);
            daysFault("lamp 3;", 2, 0);
            // An end is no step of any kind behind it, and is not one where a number must stand.
            daysFault("loop end;", 2, 5);
        });
        edge("3 a NAME that is no such one (a VISITOR; then a WALL behind lead, at).", () -> {
            daysFault("wake m;", 3, 5);
            daysFault("wake z;", 3, 5);
            daysFault("lead m p;", 3, 5);
            daysFault("lead p q;", 3, 7);
            daysFault("lead p z;", 3, 7);
            daysFault("lead p b;", 3, 7);
            daysFault("when turned f;", 3, 12);
            daysFault("when at m m;", 3, 8);
            daysFault("when at p p;", 3, 10);
            daysFault("when self b < 3;", 3, 10);
            // He who came without a name has none.
            BeastCave x = of("wall w;");
            fine(x, x.come(3, 0), 0);
            no(x, x.days(feed(x, "wake w;")), 9);
            faultIs(x, 3, 5);
        });
        edge("minute: so many (1 to 60); fill: 1 to 99", () -> {
            takenInDays("minute ", 1, 60, ";");
            takenInDays("fill ", 1, 99, ";");
        });
        edge("loop n (1 to 99): as often", () -> takenInDays("loop ", 1, 99, ";end;"));
        edge("self against 0 to 99: his greatest MEASURE", () -> {
            takenInDays("when self p < ", 0, 99, ";end;");
            takenInDays("when self p > ", 0, 99, ";end;");
            takenInDays("when self p = ", 0, 99, ";end;");
        });
        edge("6 a 31st STEP (at its WORD; end is none).", () -> {
            in(CAVE, times(30, "any;"), x -> fine(x, x.live(0), 30));
            in(CAVE, times(15, "when dark;end;") + times(15, "any;"), x -> fine(x, x.live(0), 30));
            daysFault(times(30, "any;") + "any;", 6, 120);
            daysFault(times(30, "any;") + "minute 61;", 6, 120);
            daysFault(times(30, "any;") + "wake z;", 6, 120);
            daysFault(times(30, "any;") + "stop", 6, 120);
            daysFault(times(30, "any;") + "when", 6, 120);
            daysFault(times(30, "any;") + "end;", 2, 120);
            daysFault(times(30, "any;") + "lamp", 2, 120);
            daysFault("loop 2;" + times(29, "any;") + "any;end;", 6, 123);
            of(CAVE, "loop 2;" + times(29, "any;") + "end;");
            of(CAVE, "loop 2;" + times(28, "any;") + "when dark;end;end;");
        });
        edge("7 a when, loop within three others (at its WORD).", () -> {
            of(CAVE, "loop 2;when dark;loop 3;any;end;end;end;");
            of(CAVE, "loop 2;loop 2;loop 2;end;loop 2;end;end;end;loop 2;loop 2;loop 2;end;end;end;");
            daysFault("loop 2;when dark;loop 3;loop 4;", 7, 24);
            daysFault("loop 2;when dark;loop 3;when dark;", 7, 24);
            daysFault("loop 2;when dark;loop 3;loop 100;", 7, 24);
            daysFault("loop 2;when dark;loop 3;end;when dark;when", 7, 38);
            // The 31st within three: of one token the least kind.
            daysFault("loop 2;loop 2;loop 2;" + times(27, "any;") + "loop 2;", 6, 129);
            daysFault("loop 2;loop 2;loop 2;" + times(26, "any;") + "loop 2;", 7, 125);
        });
    }

    private static void stepsOfDays() {
        edge("a VISITOR by a draw by how many there are is LED to a WALL by a draw by how many there are (both first)", () ->
            // By seed 0 the draws are 1427, 3025, 4026, 6130: v, then u is drawn; v is on a way.
            in("wall a;wall c;way a c long 9;visitor u self 1 at c;visitor v self 1 at a;", "any;any;", x -> {
                fine(x, x.lead(1, 1), 9);
                fine(x, x.live(0), 2);
                lived(x, 1, 0, 1, 0, 0);
                fine(x, x.visitor(0, 1), 0);
                fine(x, x.visitor(0, 2), 9);
            }));
        edge("at: he is AT that WALL, or on a WAY to it", () ->
            in(CAVE, "when at q m;fill 1;end;lead q x;when at q m;fill 2;end;when at q x;fill 4;end;minute 1;when at q x;fill 8;end;",
                x -> {
                    fine(x, x.live(0), 9);
                    fine(x, x.told(4), 20 + 1 + 4 - 1 + 8);
                }));
        edge("dark: the LAMP does not burn", () ->
            in("lamp 1;", "when dark;fill 9;end;minute 1;when dark;fill 3;end;when dark;fill 5;end;", x -> {
                fine(x, x.live(0), 5);
                fine(x, x.told(4), 3);
            }));
        edge("COMPARES: < or > or =", () ->
            in(CAVE, "minute 1;when self p<3;fill 1;end;when self p<4;fill 2;end;when self p>3;fill 4;end;when self p>2;fill 8;end;"
                + "when self p=2;fill 16;end;when self p=3;fill 32;end;when self p=4;fill 64;end;", x -> {
                    fine(x, x.live(0), 11);
                    fine(x, x.told(4), 19 + 2 + 8 + 32);
                }));
    }

    private static void whatIsMissed() {
        edge("MINUTES beyond 9,999 (as a whole)", () -> in(CAVE, "minute 2;minute 1;minute 1;", x -> {
            for (int i = 0; i < 41; i++) {
                x.minute(240);
            }
            fine(x, x.minute(158), 0);
            fine(x, x.live(0), 3);
            lived(x, 2, 1, 0, 0, 0);
            fine(x, x.told(6), 9999);
        }));
        edge("a lead (by any, too) of who is TURNED, on a WAY, to where he is, to where no WAY goes at once", () -> {
            String cave = "beast b;wall a of b pulls 2;wall c;wall d;way a c long 2;way c d long 1;visitor v self 1 at a;";
            in(cave, "lead v a;lead v d;lead v c;lead v c;lead v a;lead v d;", x -> {
                fine(x, x.live(0), 6);
                lived(x, 5, 0, 1, 0, 0);
            });
            in(cave, "minute 1;lead v c;", x -> {
                fine(x, x.live(0), 2);
                lived(x, 1, 1, 0, 1, 0);
            });
            in("beast b;wall a of b pulls 1;wall c;way a c long 2;visitor v self 1 at a;", "minute 1;lead v c;", x -> {
                fine(x, x.live(0), 2);
                lived(x, 0, 1, 1, 0, 0);
            });
            // One wall alone: any can only lead him to where he is.
            in("wall a;visitor v self 1 at a;", "any;any;", x -> {
                fine(x, x.live(0), 2);
                lived(x, 2, 0, 0, 0, 0);
            });
        });
        edge("a wake of who has no MEASURE above 0", () -> in(CAVE, "wake p;minute 1;wake p;wake p;wake p;", x -> {
            fine(x, x.live(0), 5);
            lived(x, 2, 1, 0, 0, 0);
            fine(x, x.measure(0, 0), 0);
        }));
        edge("a fill above 999", () -> in("lamp 99;", "fill 10;fill 9;fill 1;", x -> {
            for (int i = 0; i < 9; i++) {
                x.fill(99);
            }
            fine(x, x.live(0), 3);
            lived(x, 2, 0, 0, 0, 0);
            fine(x, x.told(4), 999);
        }));
        edge("any without VISITORS (no draws)", () -> {
            in("wall w;", "any;", x -> {
                fine(x, x.live(0), 1);
                lived(x, 1, 0, 0, 0, 0);
            });
            in("", "any;", x -> {
                fine(x, x.live(0), 1);
                lived(x, 1, 0, 0, 0, 0);
            });
        });
    }

    private static void loopsAndTheThreeHundred() {
        String full = "loop 99;minute 1;end;loop 99;minute 1;end;";
        edge("At most 300 STEPS (when, loop count as one each time they are come to from ahead; end does not).", () -> {
            in(CAVE, full + "loop 99;any;end;", x -> {
                fine(x, x.live(0), 300);
                due(x.lived(4), 0);
            });
            in(CAVE, full + "loop 99;any;end;any;", x -> {
                fine(x, x.live(0), 300);
                due(x.lived(4), 1);
            });
            in(CAVE, full + "loop 98;any;end;any;", x -> {
                fine(x, x.live(0), 300);
                due(x.lived(4), 0);
            });
            in(CAVE, full + "loop 97;any;end;any;", x -> {
                fine(x, x.live(0), 299);
                due(x.lived(4), 0);
            });
            // Come to from behind, a loop is no step; come to anew by an outer one, it is.
            in(CAVE, "loop 3;loop 2;any;end;end;", x -> fine(x, x.live(0), 1 + 3 * 3));
            in(CAVE, "loop 3;when dark;any;end;end;", x -> fine(x, x.live(0), 1 + 3));
            in(CAVE, "loop 1;loop 1;loop 1;end;end;end;", x -> fine(x, x.live(0), 3));
            // The 300th is a when: with what stands in it left to be done, or nothing.
            in(CAVE, full + "loop 98;any;end;when dark;stop;end;", x -> {
                fine(x, x.live(0), 300);
                due(x.lived(4), 1);
            });
            in(CAVE, full + "loop 98;any;end;when turned q;stop;end;", x -> {
                fine(x, x.live(0), 300);
                due(x.lived(4), 0);
            });
        });
        edge("(0 to 9,999), from how all is now: what it comes to stays (mean() alone takes it back)", () ->
            in(CAVE, "minute 2;", x -> {
                no(x, x.live(-1), 1);
                no(x, x.live(10000), 1);
                fine(x, x.live(0), 1);
                fine(x, x.told(6), 2);
                fine(x, x.live(9999), 1);
                fine(x, x.told(6), 4);
                yes(x, x.mean(0, 20));
                fine(x, x.told(6), 4);
                fine(x, x.told(4), 16);
            }));
    }

    private static void draws() {
        edge("becomes what is left of s times 3,191 and 11,423 by 65,536; the draw by n is the rest of s by 8, rounded down, by n",
            () -> {
                String three = "wall a;wall b;wall c;way a b long 1;way a c long 2;visitor u self 1 at a;visitor v self 1 at a;";
                // Seed 0: 1427 and 3025, v to b. Seed 9999: 275 and 2408, v to c.
                in(three, "any;", x -> {
                    fine(x, x.live(0), 1);
                    fine(x, x.visitor(1, 2), 1);
                    fine(x, x.visitor(0, 2), 0);
                });
                in(three, "any;", x -> {
                    fine(x, x.live(9999), 1);
                    fine(x, x.visitor(1, 2), 2);
                    fine(x, x.visitor(0, 2), 0);
                });
            });
    }

    /** All that there can be, in one text. */
    private static final String CROWD = "lamp 0;odds 0;" + each("abcde", "beast ?;") + each("fghijkl", "wall ? of e pulls 9;")
        + times(5, "way f l long 9;way l k long 8;") + each("mnopqr", "visitor ? self 60 at l;")
        + each("stuvwxyz", "figure ? of e style 9 9;") + "over z y;over y x;over s z;follows e d weight 9;";

    private static BeastCave begun() {
        BeastCave x = of(CAVE, "any;minute 2;when turned p;wake p;end;fill 3;");
        fine(x, x.minute(2), 1);
        fine(x, x.lead(1, 1), 1);
        yes(x, x.paint(0, 1, 9));
        fine(x, x.scrub(1), 0);
        fine(x, x.come(60, 2), 3);
        fine(x, x.draw(1, 7, 8), 3);
        yes(x, x.cover(3, 2));
        yes(x, x.rule(3));
        return x;
    }

    private static BeastCave crowded() {
        BeastCave x = of(CROWD, "loop 3;when self m<9;minute 1;end;when at r f;fill 7;end;lead q f;end;lead r k;wake m;stop;");
        fine(x, x.fill(3), 3);
        fine(x, x.minute(2), 0);
        fine(x, x.lead(5, 0), 9);
        fine(x, x.minute(4), 0);
        fine(x, x.lead(0, 5), 8);
        return x;
    }

    /** Whatever is done behind a mark, all is as without it when it is taken back; names are those of then. */
    private static void comesBack(Supplier<BeastCave> make, String days, int visitor, int wall) {
        BeastCave x = make.get();
        for (int i = 0; i < 3; i++) {
            fine(x, x.mark(), 1);
            x.cave(feed(x, i == 1 ? CAVE : CROWD));
            due(x.status(), 0);
            x.days(feed(x, i == 1 ? "stop;any;stop;" : "loop 2;fill 3;fill 4;minute 1;end;loop 5;end;any;any;any;any;any;any;"));
            due(x.status(), 0);
            fine(x, x.mark(), 2);
            fine(x, x.minute(3), i == 1 ? 1 : 0);
            fine(x, x.fill(9), i == 1 ? 26 : 9);
            fine(x, x.minute(3), i == 1 ? 2 : 0);
            fine(x, x.wake(0), i == 1 ? 9 : 13);
            fine(x, x.scrub(2), i == 1 ? 1 : 4);
            yes(x, x.paint(1, 0, 3));
            yes(x, x.rule(9));
            yes(x, x.cover(1, 2));
            fine(x, x.lead(1, i == 1 ? 2 : 0), i == 1 ? 4 : 9);
            fine(x, x.undo(), 1);
            fine(x, x.told(6), 0);
            for (int k = 0; k <= i; k++) {
                x.cave(feed(x, k == 1 ? CAVE : CROWD));
                due(x.status(), 0);
            }
            fine(x, x.undo(), 0);
        }
        due(all(x).equals(all(make.get())) ? 1 : 0, 1);
        BeastCave y = make.get();
        fine(y, y.mark(), 1);
        fine(y, y.cave(feed(y, "wall p;wall q;wall r;wall x;beast f;visitor z self 1 at q;")), 1);
        fine(y, y.undo(), 0);
        y.minute(9);
        fine(y, y.days(feed(y, days)), 2);
        fine(y, y.live(0), 2);
        fine(y, y.visitor(visitor, 1), wall);
    }

    private static void marksAndFractions() {
        edge("MARKS, at most 3", () -> in(CAVE, x -> {
            no(x, x.undo(), 6);
            for (int i = 1; i <= 3; i++) {
                fine(x, x.mark(), i);
                fine(x, x.minute(i), i == 1 ? 0 : i == 2 ? 1 : 2);
            }
            no(x, x.mark(), 4);
            int[] minute = {3, 1, 0};
            for (int i = 0; i < 3; i++) {
                fine(x, x.undo(), 2 - i);
                fine(x, x.told(6), minute[i]);
            }
            no(x, x.undo(), 6);
        }));
        edge("the CAVE with all that became of it, the DAYS are kept as they are; all is taken back to the latest MARK, which is gone then.",
            () -> {
                comesBack(TermEdgeTests::begun, "wake r;lead q y;", 1, 2);
                comesBack(TermEdgeTests::crowded, "wake r;lead q f;", 4, 0);
            });
        edge("without a common divisor, the bottom above 0; 0 is 0 by 1.", () -> {
            in("odds 16;", x -> {
                yes(x, x.flicker(3, 3));
                fraction(x, 1, 1);
                yes(x, x.flicker(3, 4));
                fraction(x, 0, 1);
                yes(x, x.rule(0));
                yes(x, x.flicker(12, 1));
                fraction(x, 0, 1);
            });
            in("beast b;wall w of b pulls 2;visitor v self 1 at w;visitor u self 1 at w;", "minute 1;", x -> {
                yes(x, x.mean(0, 20));
                fraction(x, 2, 1);
            });
            in("", "stop;", x -> {
                yes(x, x.mean(0, 20));
                fraction(x, 0, 1);
            });
        });
    }

    // ---- Term 5; in what order statuses are asked, each promise's tests say

    private static void whatHasNoStatus() {
        edge("status(), top(), bottom(), feed(), fault() have none.", () -> {
            BeastCave x = new BeastCave();
            no(x, x.undo(), 6);
            due(x.status(), 6);
            due(x.top(), 0);
            due(x.bottom(), 1);
            due(x.fault(0), -1);
            due(x.fault(5), -1);
            for (int i = 0; i < 46; i++) {
                x.feed(0, 0, 0, 0, 0);
            }
            due(x.status(), 6);
        });
        edge("Where a number may be below 0, STATUS tells NONE from -1.", () -> {
            BeastCave x = of("beast b;wall w of b pulls 2;visitor v self 1 at w;");
            tray(x, 0, 0, -1);
            fine(x, x.read(0, 0), -1);
            no(x, x.read(0, 1), 3);
            fine(x, x.minute(1), 1);
            fine(x, x.game(0, 0), -1);
            no(x, x.game(1, 0), 1);
        });
    }
}
