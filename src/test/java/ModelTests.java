import java.lang.reflect.Method;
import java.util.ArrayList;
import java.util.HashMap;
import java.util.List;
import java.util.Map;
import java.util.Random;

/** Runs of drawn calls, each answered by BeastCave and by the Model; any that differ are printed. */
public final class ModelTests {
    private static final Map<String, Method> METHODS = new HashMap<>();
    private static int wrong;

    private final Random random;
    private final BeastCave cave = new BeastCave();
    private final Model model = new Model();
    private final List<String> told = new ArrayList<>();
    private boolean differs;
    /** Whether the text that is being drawn may break the rules. */
    private boolean careless;

    private ModelTests(long seed) {
        random = new Random(seed);
    }

    public static void main(String[] args) throws Exception {
        int runs = args.length > 0 ? Integer.parseInt(args[0]) : 400;
        long first = args.length > 1 ? Long.parseLong(args[1]) : 1;
        for (Method m : BeastCave.class.getDeclaredMethods()) {
            METHODS.put(m.getName(), m);
        }
        for (long seed = first; seed < first + runs && wrong < 5; seed++) {
            new ModelTests(seed).run();
        }
        System.out.println(wrong == 0 ? runs + " runs are as the model's" : wrong + " runs differ from the model's");
        if (wrong != 0) {
            System.exit(1);
        }
    }

    private void run() throws Exception {
        if (chance(90)) {
            text(true);
        }
        if (chance(60)) {
            text(false);
        }
        int calls = 40 + pick(120);
        for (int i = 0; i < calls && !differs; i++) {
            one();
        }
        if (differs) {
            wrong++;
            told.forEach(System.out::println);
            System.out.println("----");
        }
    }

    private int pick(int n) {
        return random.nextInt(n);
    }

    private boolean chance(int percent) {
        return pick(100) < percent;
    }

    private boolean slips(int percent) {
        return careless && chance(percent);
    }

    private static long number(Object o) {
        return o instanceof Boolean b ? b ? 1 : 0 : ((Number) o).longValue();
    }

    private long call(String name, long... args) throws Exception {
        Method m = METHODS.get(name);
        Class<?>[] types = m.getParameterTypes();
        Object[] given = new Object[types.length];
        for (int i = 0; i < types.length; i++) {
            given[i] = types[i] == long.class ? (Object) args[i] : (Object) (int) args[i];
        }
        long want = model.call(name, args);
        long got = number(m.invoke(cave, given));
        StringBuilder line = new StringBuilder(name).append('(');
        for (int i = 0; i < args.length; i++) {
            line.append(i == 0 ? "" : ", ").append(args[i]);
        }
        line.append(") ").append(got);
        if (got != want) {
            line.append(" DUE ").append(want);
            differs = true;
        }
        told.add(line.toString());
        return got;
    }

    private void checked(String name, long... args) throws Exception {
        call(name, args);
        if (!differs) {
            call("status");
        }
    }

    // ---- texts

    private void text(boolean isCave) throws Exception {
        careless = chance(35);
        String s = isCave ? caveText() : daysText();
        if (careless && chance(70)) {
            s = spoilt(s);
        }
        if (s.length() > 880) {
            s = s.substring(0, 880);
        }
        told.add("// " + s.replace("\n", "\\n"));
        for (int i = 0; i < s.length(); i += 20) {
            long[] a = new long[5];
            for (int k = 0; k < 20; k++) {
                int c = i + k < s.length() ? s.charAt(i + k) : 0;
                a[k / 4] |= (long) (c & 255) << 8 * (3 - k % 4);
            }
            for (int k = 0; k < 5; k++) {
                a[k] = (int) a[k];
            }
            call("feed", a);
        }
        checked(isCave ? "cave" : "days", s.length());
        call("fault", 0);
        call("fault", 1);
        if (model.tape.length() > 700) {
            checked("cave", 0);
        }
    }

    private String spoilt(String s) {
        StringBuilder b = new StringBuilder(s);
        int times = 1 + pick(2);
        String[] bits = {";", "<", "=", " ", "\n", "a", "Z", "12345", "0", "9", "99", "end;", "of", "lamp 5;", "odds 3;",
            "beast q;", "wall", "#", "\u00e9", "visitors", "abcdefghi", "when dark;", "loop 3;", "\t", "over ", "7", "61"};
        for (int i = 0; i < times; i++) {
            int at = pick(b.length() + 1);
            if (chance(40) && at < b.length()) {
                b.delete(at, Math.min(b.length(), at + 1 + pick(4)));
            } else if (chance(20)) {
                b.setLength(at);
            } else {
                b.insert(at, bits[pick(bits.length)]);
            }
        }
        return b.toString();
    }

    private String gap() {
        return chance(90) ? " " : chance(50) ? "\n" : "  \n ";
    }

    private String part(String... words) {
        StringBuilder b = new StringBuilder();
        for (String w : words) {
            b.append(b.length() == 0 ? "" : gap()).append(w);
        }
        b.append(chance(5) ? " " : "").append(';').append(chance(10) ? " " : "");
        return b.toString();
    }

    private static String name(String kind, int i) {
        return kind + (char) ('a' + i);
    }

    private String any(String kind, int n) {
        return name(kind, pick(Math.max(1, slips(1) ? n + 1 : n)));
    }

    private String upTo(int low, int high) {
        int n = slips(2) ? chance(50) ? low - 1 : high + 1 : low + pick(high - low + 1);
        return (chance(3) ? "0" : "") + Math.max(0, n);
    }

    private int many(int most) {
        return slips(6) ? most + 1 : pick(most + 1);
    }

    private String caveText() {
        StringBuilder b = new StringBuilder();
        int beasts = chance(80) ? 1 + pick(5) : many(5);
        int walls = chance(80) ? 2 + pick(6) : many(7);
        int visitors = chance(80) ? 1 + pick(6) : many(6);
        int figures = many(8);
        b.append(chance(60) ? part("lamp", upTo(0, 99)) : "");
        b.append(chance(60) ? part("odds", upTo(0, 16)) : "");
        for (int i = 0; i < beasts; i++) {
            b.append(part("beast", name("b", i)));
        }
        for (int i = 0; i < walls; i++) {
            b.append(beasts > 0 && chance(75) ? part("wall", name("w", i), "of", any("b", beasts), "pulls", upTo(1, 9))
                : part("wall", name("w", i)));
        }
        for (int i = walls > 1 ? pick(11) : 0; i > 0; i--) {
            String first = any("w", walls);
            String second = any("w", walls);
            if (!first.equals(second) || slips(4)) {
                b.append(part("way", first, second, "long", upTo(1, chance(70) ? 3 : 9)));
            }
        }
        for (int i = 0; i < visitors && walls > 0; i++) {
            b.append(part("visitor", name("v", i), "self", upTo(1, chance(50) ? 60 : 15), "at", any("w", walls)));
        }
        for (int i = 0; i < figures && beasts > 0; i++) {
            b.append(part("figure", name("f", i), "of", any("b", beasts), "style", upTo(0, 9), upTo(0, 9)));
        }
        for (int i = figures > 1 && beasts > 0 ? pick(8) : 0; i > 0; i--) {
            int x = pick(figures);
            int y = pick(figures);
            if (x != y || slips(4)) {
                boolean turn = chance(90) && x < y;
                b.append(part("over", name("f", turn ? y : x), name("f", turn ? x : y)));
            }
        }
        for (int i = beasts > 0 ? pick(14) : 0; i > 0; i--) {
            b.append(part("follows", any("b", beasts), any("b", beasts), "weight", upTo(1, 9)));
        }
        return b.toString();
    }

    private String daysText() {
        StringBuilder b = new StringBuilder();
        int visitors = model.world.visitors.size();
        int walls = model.world.walls.size();
        int depth = 0;
        int steps = chance(80) ? pick(14) : pick(34);
        for (int i = 0; i < steps; i++) {
            switch (pick(12)) {
                case 0, 1 -> b.append(part("minute", upTo(1, chance(70) ? 6 : 60)));
                case 2, 3 -> b.append(visitors > 0 ? part("lead", any("v", visitors), any("w", walls)) : "");
                case 4 -> b.append(visitors > 0 ? part("wake", any("v", visitors)) : "");
                case 5 -> b.append(part("fill", upTo(1, 99)));
                case 6 -> b.append(part("any"));
                case 7 -> {
                    if (depth < 3 || slips(20)) {
                        b.append(part("loop", upTo(1, chance(50) ? 5 : 99)));
                        depth++;
                    }
                }
                case 8, 9 -> {
                    if (depth < 3 || slips(20)) {
                        b.append(test(visitors, walls));
                        depth++;
                    }
                }
                case 10 -> {
                    if (depth > 0 || slips(3)) {
                        b.append(part("end"));
                        depth--;
                    }
                }
                default -> b.append(chance(15) ? part("stop") : part("any"));
            }
        }
        for (; depth > 0; depth--) {
            b.append(slips(2) ? "" : part("end"));
        }
        return b.length() > 300 && chance(90) ? part("minute", "1") : b.toString();
    }

    private String test(int visitors, int walls) {
        int kind = visitors == 0 ? 0 : pick(4);
        if (kind == 1) {
            return part("when", "turned", any("v", visitors));
        }
        if (kind == 2) {
            return part("when", "at", any("v", visitors), any("w", walls));
        }
        if (kind == 3) {
            return part("when", "self", any("v", visitors), "<>=".substring(pick(3)).substring(0, 1),
                upTo(0, chance(50) ? 9 : 99));
        }
        return part("when", "dark");
    }

    // ---- calls

    /** Mostly a number below n, now and then one that can't be. */
    private long below(int n) {
        if (chance(5)) {
            long[] odd = {-1, n, n + 1, Integer.MAX_VALUE, Integer.MIN_VALUE, -2, 64};
            return odd[pick(odd.length)];
        }
        return n > 0 ? pick(n) : 0;
    }

    private long from(int low, int high) {
        return (int) (low + below(high - low + 1));
    }

    private long visitor() {
        return below(model.world.visitors.size());
    }

    private long wall() {
        return below(model.world.walls.size());
    }

    private long beast() {
        return below(model.world.beasts);
    }

    private long figure() {
        return below(model.world.figures.size());
    }

    private long tray() {
        return below(4);
    }

    private void one() throws Exception {
        switch (pick(64)) {
            case 0 -> checked("tray", tray(), below(4), chance(50) ? below(61) : below(9));
            case 1, 2 -> checked("write", tray(), below(12), random.nextLong() >> pick(64));
            case 3 -> checked("read", tray(), below(60));
            case 4 -> checked("pour", tray(), below(8), tray(), below(8), below(8));
            case 5 -> {
                call("top");
                call("bottom");
                call("fault", below(2));
            }
            case 6 -> {
                if (chance(20)) {
                    text(true);
                }
            }
            case 7 -> {
                if (chance(40)) {
                    text(false);
                }
            }
            case 8, 9, 10 -> checked("told", below(10));
            case 11 -> checked("wall", wall(), below(2));
            case 12 -> checked("visitor", visitor(), below(4));
            case 13 -> checked("measure", visitor(), beast());
            case 14 -> checked("who", visitor());
            case 15 -> checked("figure", figure(), below(4));
            case 16 -> checked("weight", beast(), beast());
            case 17, 18, 19 -> checked("minute", chance(80) ? from(1, 6) : from(1, 240));
            case 20, 21, 22 -> checked("lead", visitor(), wall());
            case 23 -> checked("wake", visitor());
            case 24 -> checked("fill", from(1, 99));
            case 25 -> checked("paint", wall(), beast(), from(1, 9));
            case 26 -> checked("scrub", wall());
            case 27 -> checked("come", from(1, 60), wall());
            case 28 -> checked("draw", beast(), below(10), below(10));
            case 29 -> checked("cover", figure(), figure());
            case 30 -> checked("rule", below(17));
            case 31 -> checked("measureIn", visitor(), beast(), below(201));
            case 32 -> checked("whoIn", visitor(), below(201));
            case 33 -> checked("turnIn", visitor());
            case 34 -> checked("freeIn");
            case 35 -> checked("safe", visitor(), wall());
            case 36 -> checked("far", wall(), wall());
            case 37 -> checked("near", wall());
            case 38 -> checked("tour", visitor(), below(1 << model.world.walls.size()), from(1, chance(50) ? 9 : 3));
            case 39 -> checked("tourAt", visitor(), below(1 << model.world.walls.size()), from(1, chance(50) ? 9 : 3), below(5));
            case 40 -> {
                if (chance(30)) {
                    checked("layers");
                }
            }
            case 41 -> checked("layerAt", model.world.figures.size() > 6 ? -1 : below(8));
            case 42 -> checked("low", model.world.figures.size() > 6 ? -1 : figure());
            case 43 -> checked("hands", below(19));
            case 44 -> checked("hand", below(19));
            case 45 -> checked("rows", chance(90) ? from(1, 6) : from(7, 8));
            case 46 -> checked("rowsTo", from(1, 6), beast());
            case 47 -> checked("likeliest", chance(90) ? from(1, 5) : from(6, 8));
            case 48 -> checked("likeliestAt", chance(90) ? from(1, 5) : from(6, 8), below(8));
            case 49, 50, 51, 52 -> seen();
            case 53, 54 -> checked("game", visitor(), below(5));
            case 55, 56 -> checked("moveOf", visitor(), from(1, 4));
            case 57 -> checked("flicker", below(13), below(13));
            case 58 -> checked("copyMost", tray());
            case 59, 60 -> {
                checked("live", below(10000));
                for (int i = 0; i < 5; i++) {
                    checked("lived", i);
                }
            }
            case 61 -> checked("lived", below(5));
            case 62 -> {
                checked("mean", below(10000), from(1, chance(70) ? 4 : 20));
                call("top");
                call("bottom");
            }
            default -> checked(chance(60) ? "mark" : "undo");
        }
    }

    /** Twos that were truly seen, mostly, and what they tell. */
    private void seen() throws Exception {
        long v = visitor();
        long t = tray();
        int n = pick(4);
        checked("tray", t, chance(80) ? 1 : below(4), 2 * n + pick(2) - (chance(5) ? 1 : 0));
        for (int i = 0; i < n; i++) {
            long minutes = below(chance(50) ? 20 : 201);
            long beast = model.call("whoIn", v, minutes);
            call("whoIn", v, minutes);
            checked("write", t, 2 * i, minutes);
            checked("write", t, 2 * i + 1, chance(90) ? beast < 0 ? model.world.beasts : beast : below(7));
        }
        checked("fits", v, t, n);
        checked("fitsAt", v, t, n, below(2));
        checked("ask", v, t, n);
    }
}
