import java.io.IOException;
import java.nio.charset.StandardCharsets;
import java.nio.file.Files;
import java.nio.file.Path;
import java.util.ArrayList;
import java.util.List;
import java.util.function.Consumer;
import java.util.function.Supplier;
import java.util.function.ToLongFunction;

/** How the tests of edges speak: by the document's own words, and by a cave that is full of all that there can be. */
abstract class Edges extends Due {
    private static final String DOCUMENT = document();
    private static int edges;

    private static String document() {
        try {
            return Files.readString(Path.of("../shared/DOC.md"), StandardCharsets.UTF_8);
        } catch (IOException e) {
            System.out.println("../shared/DOC.md can't be read, so no words are looked up in it");
            return null;
        }
    }

    /** A test of a sentence; its words must stand in the document just so. */
    static void edge(String words, Runnable test) {
        subject = "\"" + words + "\"";
        edges++;
        if (DOCUMENT != null && !DOCUMENT.contains(words)) {
            System.out.println("the document has no such words: " + words);
            due(0, 1);
        }
        test.run();
    }

    static void tellEdges() {
        tell(edges + " edges hold");
    }

    /** How a call that answers true or false is held against others: a refused one counts as NONE. */
    static long n(boolean answer) {
        return answer ? 1 : BeastCave.NONE;
    }

    /**
     * A cave in which something is told of all that can be: p is turned, q on a way, r himself; two marks ahead, days that
     * have been lived, trays of three sorts with tray 3 missing, a fraction, bytes on the tape.
     */
    static BeastCave rich() {
        BeastCave x = of(CAVE, "any;minute 2;when turned p;wake p;end;fill 3;");
        x.mark();
        x.live(3);
        x.undo();
        x.mark();
        x.fill(1);
        x.mark();
        x.minute(2);
        x.lead(1, 1);
        tray(x, 0, 0, 1, -2, 3, -4, 5, -6);
        tray(x, 1, 2, 100000, -100000, 7, 8);
        yes(x, x.tray(2, 3, 60));
        yes(x, x.write(2, 59, Long.MIN_VALUE));
        yes(x, x.flicker(3, 2));
        due(feed(x, "lamp 77;"), 8);
        return x;
    }

    /** The same at the end of minutes, lamp, visitors, figures and marks; nobody is turned. */
    static BeastCave full() {
        BeastCave x = of(CAVE, "any;minute 2;fill 3;");
        toTheLastMinute(x);
        for (int i = 0; i < 10; i++) {
            fine(x, x.fill(99), 99 * (i + 1));
        }
        fine(x, x.fill(9), 999);
        while (x.told(2) < 6) {
            x.come(3, 0);
        }
        while (x.told(3) < 8) {
            x.draw(1, 4, 4);
        }
        for (int i = 1; i <= 3; i++) {
            fine(x, x.mark(), i);
        }
        return x;
    }

    static void toTheLastMinute(BeastCave x) {
        for (int left = 9999 - x.told(6); left > 0; left -= 240) {
            x.minute(Math.min(240, left));
        }
    }

    /** The call is refused with that status, and all else answers as if it had not been made. */
    static void refused(Supplier<BeastCave> make, ToLongFunction<BeastCave> call, int status) {
        BeastCave x = make.get();
        due(call.applyAsLong(x), BeastCave.NONE);
        due(x.status(), status);
        due(all(x).equals(all(make.get())) ? 1 : 0, 1);
    }

    /** All that can be asked of a cave, what is marked, planned and on the tape too; it is of no use then. */
    static List<Long> all(BeastCave x) {
        List<Long> told = new ArrayList<>();
        told.add(x.top());
        told.add(x.bottom());
        told.add((long) x.fault(0));
        told.add((long) x.fault(1));
        for (int what = 0; what < 5; what++) {
            note(told, x, x.lived(what));
        }
        for (int t = 0; t < 4; t++) {
            for (int place : new int[] {0, 1, 2, 3, 4, 5, 6, 59}) {
                note(told, x, x.read(t, place));
            }
        }
        cave(told, x);
        note(told, x, x.live(5));
        cave(told, x);
        note(told, x, x.mark());
        told.add((long) x.feed(0, 0, 0, 0, 0));
        note(told, x, x.cave(7));
        for (int i = 0; i < 4; i++) {
            note(told, x, x.undo());
            for (int what = 0; what < 10; what++) {
                note(told, x, x.told(what));
            }
        }
        return told;
    }

    private static void note(List<Long> told, BeastCave x, long answer) {
        told.add(answer == BeastCave.NONE ? BeastCave.NONE - (long) x.status() : answer);
    }

    private static void cave(List<Long> told, BeastCave x) {
        for (int what = 0; what < 10; what++) {
            note(told, x, x.told(what));
        }
        int beasts = x.told(0);
        int walls = x.told(1);
        int visitors = x.told(2);
        int figures = x.told(3);
        for (int wall = 0; wall < walls; wall++) {
            note(told, x, x.wall(wall, 0));
            note(told, x, x.wall(wall, 1));
            note(told, x, x.near(wall));
            note(told, x, x.far(wall, 0));
            note(told, x, x.far(walls - 1, wall));
        }
        for (int visitor = 0; visitor < visitors; visitor++) {
            for (int what = 0; what < 4; what++) {
                note(told, x, x.visitor(visitor, what));
            }
            for (int beast = 0; beast < beasts; beast++) {
                note(told, x, x.measure(visitor, beast));
            }
        }
        for (int figure = 0; figure < figures; figure++) {
            for (int what = 0; what < 4; what++) {
                note(told, x, x.figure(figure, what));
            }
        }
        for (int beast = 0; beast < beasts * beasts; beast++) {
            note(told, x, x.weight(beast / beasts, beast % beasts));
        }
    }

    /** A call with one number in it that is to be tried. */
    interface Tried {
        long call(BeastCave x, int number);
    }

    /** From low to high the number is not what is refused by that status; next to them and far away it is. */
    static void range(Supplier<BeastCave> make, int low, int high, int status, Tried tried) {
        for (int number = low; number <= high; number++) {
            BeastCave x = make.get();
            tried.call(x, number);
            due(x.status() == status ? 1 : 0, 0);
        }
        for (int number : new int[] {low - 1, high + 1, Integer.MIN_VALUE, Integer.MAX_VALUE}) {
            refused(make, x -> tried.call(x, number), status);
        }
    }

    /** The same with status 1, in the rich cave. */
    static void range(int low, int high, Tried tried) {
        range(Edges::rich, low, high, 1, tried);
    }

    /** A run on a new object of that cave. */
    static void in(String cave, Consumer<BeastCave> run) {
        run.accept(of(cave));
    }

    static void in(String cave, String days, Consumer<BeastCave> run) {
        run.accept(of(cave, days));
    }
}
