import java.math.BigInteger;
import java.util.ArrayList;
import java.util.Arrays;
import java.util.HashMap;
import java.util.HashSet;
import java.util.LinkedHashMap;
import java.util.List;
import java.util.Map;
import java.util.Set;
import java.util.regex.Matcher;
import java.util.regex.Pattern;

/**
 * The document once more, as slow and plain as can be, with the whole Java library: all is tried one by one on copies.
 * ModelTests holds BeastCave against it.
 */
final class Model {
    static final class Fault extends RuntimeException {
        final int kind;
        final int place;

        Fault(int kind, int place) {
            this.kind = kind;
            this.place = place;
        }
    }

    /** Ends a call with a status. */
    static final class Refused extends RuntimeException {
        final int status;

        Refused(int status) {
            this.status = status;
        }
    }

    static final class Wall {
        Integer beast;
        int pull;
    }

    static final class Visitor {
        int self;
        int at;
        int toGo;
        List<Integer> measures = new ArrayList<>();

        int most() {
            return measures.stream().mapToInt(i -> i).max().orElse(0);
        }

        boolean turned() {
            return most() > self;
        }

        int beast() {
            return turned() ? measures.indexOf(most()) : measures.size();
        }
    }

    static final class Figure {
        int beast;
        int one;
        int two;
        Set<Integer> over = new HashSet<>();
    }

    static final class World {
        int lamp = 60;
        int odds = 4;
        int minute;
        int beasts;
        List<Wall> walls = new ArrayList<>();
        List<int[]> ways = new ArrayList<>();
        List<Visitor> visitors = new ArrayList<>();
        List<Figure> figures = new ArrayList<>();
        Map<List<Integer>, Integer> follows = new HashMap<>();
        Map<String, String> names = new LinkedHashMap<>();
        List<Step> days;

        World copy() {
            World w = new World();
            w.lamp = lamp;
            w.odds = odds;
            w.minute = minute;
            w.beasts = beasts;
            for (Wall a : walls) {
                Wall b = new Wall();
                b.beast = a.beast;
                b.pull = a.pull;
                w.walls.add(b);
            }
            w.ways.addAll(ways);
            for (Visitor a : visitors) {
                Visitor b = new Visitor();
                b.self = a.self;
                b.at = a.at;
                b.toGo = a.toGo;
                b.measures.addAll(a.measures);
                w.visitors.add(b);
            }
            for (Figure a : figures) {
                Figure b = new Figure();
                b.beast = a.beast;
                b.one = a.one;
                b.two = a.two;
                b.over.addAll(a.over);
                w.figures.add(b);
            }
            w.follows.putAll(follows);
            w.names.putAll(names);
            w.days = days;
            return w;
        }

        void look(Visitor v, Integer beast, int pull) {
            for (int b = 0; b < v.measures.size(); b++) {
                int m = v.measures.get(b);
                v.measures.set(b, beast != null && beast == b ? Math.min(99, m + pull) : Math.max(0, m - 1));
            }
        }

        void pass() {
            for (Visitor v : visitors) {
                if (v.toGo > 0) {
                    v.toGo--;
                    look(v, null, 0);
                } else if (lamp > 0) {
                    look(v, walls.get(v.at).beast, walls.get(v.at).pull);
                } else {
                    look(v, null, 0);
                }
            }
            if (lamp > 0) {
                lamp--;
            }
            minute++;
        }

        World in(int minutes) {
            World w = copy();
            for (int i = 0; i < minutes; i++) {
                w.pass();
            }
            return w;
        }

        int shortest(int a, int b) {
            int best = 0;
            for (int[] way : ways) {
                if (way[0] == a && way[1] == b || way[0] == b && way[1] == a) {
                    best = best == 0 ? way[2] : Math.min(best, way[2]);
                }
            }
            return best;
        }

        boolean canLead(int visitor, int wall) {
            Visitor v = visitors.get(visitor);
            return !v.turned() && v.toGo == 0 && wall != v.at && shortest(v.at, wall) > 0;
        }

        void lead(int visitor, int wall) {
            Visitor v = visitors.get(visitor);
            v.toGo = shortest(v.at, wall);
            v.at = wall;
        }

        /** By all simple ways, one by one. */
        int far(int a, int b, Set<Integer> seen) {
            if (a == b) {
                return 0;
            }
            int best = -1;
            for (int next = 0; next < walls.size(); next++) {
                int d = shortest(a, next);
                if (d == 0 || seen.contains(next)) {
                    continue;
                }
                Set<Integer> more = new HashSet<>(seen);
                more.add(next);
                int rest = far(next, b, more);
                if (rest >= 0 && (best < 0 || d + rest < best)) {
                    best = d + rest;
                }
            }
            return best;
        }

        int turnedSet() {
            int set = 0;
            for (int v = 0; v < visitors.size(); v++) {
                set |= visitors.get(v).turned() ? 1 << v : 0;
            }
            return set;
        }
    }

    // ---- texts

    static final class Token {
        String text;
        int place;
    }

    static final Set<String> RESERVED = Set.of("lamp", "odds", "beast", "wall", "of", "pulls", "way", "long", "visitor",
            "self", "at", "figure", "style", "over", "follows", "weight", "minute", "lead", "wake", "fill", "any", "when",
            "turned", "dark", "loop", "end", "stop");

    static final class Parser {
        static final Pattern TOKEN = Pattern.compile("[a-z]+|[0-9]+|[;<>=]");
        final List<Token> tokens = new ArrayList<>();
        int i;
        final World world;

        Parser(String text, World world) {
            this.world = world;
            int place = 0;
            while (true) {
                while (place < text.length() && (text.charAt(place) == ' ' || text.charAt(place) == '\n')) {
                    place++;
                }
                Token t = new Token();
                t.place = place;
                if (place == text.length()) {
                    t.text = "";
                    tokens.add(t);
                    return;
                }
                Matcher m = TOKEN.matcher(text);
                m.region(place, text.length());
                if (!m.lookingAt() || m.group().matches("[0-9]{5,}")) {
                    t.text = null;
                    tokens.add(t);
                    return;
                }
                t.text = m.group();
                tokens.add(t);
                place = m.end();
            }
        }

        String peek() {
            if (tokens.get(i).text == null) {
                throw new Fault(1, tokens.get(i).place);
            }
            return tokens.get(i).text;
        }

        Fault fault(int kind) {
            peek();
            return new Fault(kind, tokens.get(i).place);
        }

        void take(String word) {
            if (!peek().equals(word)) {
                throw fault(2);
            }
            i++;
        }

        int number(int low, int high) {
            if (!peek().matches("[0-9]+")) {
                throw fault(2);
            }
            int n = Integer.parseInt(peek());
            if (n < low || n > high) {
                throw fault(4);
            }
            i++;
            return n;
        }

        String name() {
            if (!peek().matches("[a-z]{1,8}") || RESERVED.contains(peek())) {
                throw fault(2);
            }
            return peek();
        }

        void newName(String kind, int number) {
            String n = name();
            if (world.names.containsKey(n)) {
                throw fault(3);
            }
            world.names.put(n, kind + number);
            i++;
        }

        int known(String kind, int not) {
            String n = name();
            String thing = world.names.get(n);
            if (thing == null || !thing.startsWith(kind)) {
                throw fault(3);
            }
            int number = Integer.parseInt(thing.substring(kind.length()));
            if (number == not) {
                throw fault(5);
            }
            i++;
            return number;
        }

        void cave() {
            boolean lamp = false;
            boolean odds = false;
            while (!peek().isEmpty()) {
                String word = peek();
                if (word.equals("lamp")) {
                    if (lamp) {
                        throw fault(5);
                    }
                    lamp = true;
                    i++;
                    world.lamp = number(0, 99);
                } else if (word.equals("odds")) {
                    if (odds) {
                        throw fault(5);
                    }
                    odds = true;
                    i++;
                    world.odds = number(0, 16);
                } else if (word.equals("beast")) {
                    room(world.beasts, 5);
                    newName("beast", world.beasts);
                    world.beasts++;
                } else if (word.equals("wall")) {
                    room(world.walls.size(), 7);
                    newName("wall", world.walls.size());
                    Wall w = new Wall();
                    if (peek().equals("of")) {
                        i++;
                        w.beast = known("beast", -1);
                        take("pulls");
                        w.pull = number(1, 9);
                    }
                    world.walls.add(w);
                } else if (word.equals("way")) {
                    room(world.ways.size(), 10);
                    int a = known("wall", -1);
                    int b = known("wall", a);
                    take("long");
                    world.ways.add(new int[] {a, b, number(1, 9)});
                } else if (word.equals("visitor")) {
                    room(world.visitors.size(), 6);
                    newName("visitor", world.visitors.size());
                    Visitor v = new Visitor();
                    take("self");
                    v.self = number(1, 60);
                    take("at");
                    v.at = known("wall", -1);
                    world.visitors.add(v);
                } else if (word.equals("figure")) {
                    room(world.figures.size(), 8);
                    newName("figure", world.figures.size());
                    Figure f = new Figure();
                    take("of");
                    f.beast = known("beast", -1);
                    take("style");
                    f.one = number(0, 9);
                    f.two = number(0, 9);
                    world.figures.add(f);
                } else if (word.equals("over")) {
                    i++;
                    int a = known("figure", -1);
                    world.figures.get(a).over.add(known("figure", a));
                } else if (word.equals("follows")) {
                    i++;
                    int a = known("beast", -1);
                    int b = known("beast", -1);
                    take("weight");
                    world.follows.put(List.of(a, b), number(1, 9));
                } else {
                    throw fault(2);
                }
                take(";");
            }
            for (Visitor v : world.visitors) {
                for (int b = 0; b < world.beasts; b++) {
                    v.measures.add(0);
                }
            }
        }

        void room(int there, int most) {
            if (there == most) {
                throw fault(6);
            }
            i++;
        }

        int steps;

        List<Step> days(int depth) {
            List<Step> list = new ArrayList<>();
            while (true) {
                String word = peek();
                if (word.isEmpty()) {
                    if (depth > 0) {
                        throw fault(2);
                    }
                    return list;
                }
                if (word.equals("end")) {
                    if (depth == 0) {
                        throw fault(2);
                    }
                    return list;
                }
                list.add(step(depth));
            }
        }

        Step step(int depth) {
            Step s = new Step();
            s.word = peek();
            if (!Set.of("minute", "lead", "wake", "fill", "any", "when", "loop", "stop").contains(s.word)) {
                throw fault(2);
            }
            if (steps == 30) {
                throw fault(6);
            }
            boolean block = s.word.equals("when") || s.word.equals("loop");
            if (block && depth == 3) {
                throw fault(7);
            }
            steps++;
            i++;
            switch (s.word) {
                case "minute" -> s.number = number(1, 60);
                case "fill", "loop" -> s.number = number(1, 99);
                case "wake" -> s.visitor = known("visitor", -1);
                case "lead" -> {
                    s.visitor = known("visitor", -1);
                    s.wall = known("wall", -1);
                }
                case "when" -> test(s);
                default -> {
                }
            }
            take(";");
            if (block) {
                s.inside = days(depth + 1);
                take("end");
                take(";");
            }
            return s;
        }

        void test(Step s) {
            s.test = peek();
            if (!Set.of("turned", "at", "dark", "self").contains(s.test)) {
                throw fault(2);
            }
            i++;
            if (!s.test.equals("dark")) {
                s.visitor = known("visitor", -1);
            }
            if (s.test.equals("at")) {
                s.wall = known("wall", -1);
            }
            if (s.test.equals("self")) {
                s.sign = peek();
                if (!s.sign.matches("[<>=]")) {
                    throw fault(2);
                }
                i++;
                s.number = number(0, 99);
            }
        }
    }

    static final class Step {
        String word;
        String test;
        String sign;
        int visitor;
        int wall;
        int number;
        List<Step> inside;
    }

    // ---- the object

    World world = new World();
    final List<World> marks = new ArrayList<>();
    final long[][] trays = new long[4][];
    final int[] sorts = new int[4];
    String tape = "";
    int faultKind = -1;
    int faultPlace = -1;
    int status;
    BigInteger top = BigInteger.ZERO;
    BigInteger bottom = BigInteger.ONE;
    int[] lived;

    static void need(boolean holds, int status) {
        if (!holds) {
            throw new Refused(status);
        }
    }

    static boolean in(long v, long low, long high) {
        return low <= v && v <= high;
    }

    void needBeast(int b) {
        need(in(b, 0, world.beasts - 1), 1);
    }

    void needWall(int w) {
        need(in(w, 0, world.walls.size() - 1), 1);
    }

    Visitor needVisitor(int v) {
        need(in(v, 0, world.visitors.size() - 1), 1);
        return world.visitors.get(v);
    }

    Figure needFigure(int f) {
        need(in(f, 0, world.figures.size() - 1), 1);
        return world.figures.get(f);
    }

    /** Answers one call: a number, 1 or 0 for a boolean. */
    long call(String name, long... args) {
        int[] a = new int[5];
        for (int i = 0; i < args.length && i < 5; i++) {
            a[i] = (int) args[i];
        }
        switch (name) {
            case "status":
                return status;
            case "top":
                return top.longValueExact();
            case "bottom":
                return bottom.longValueExact();
            case "feed":
                return feed(a);
            case "fault":
                return a[0] == 0 ? faultKind : a[0] == 1 ? faultPlace : -1;
            default:
        }
        try {
            status = 0;
            return name.equals("write") ? write(a[0], a[1], args[2]) : answer(name, a);
        } catch (Refused r) {
            status = r.status;
            return BOOLEANS.contains(name) ? 0 : -1;
        }
    }

    static final Set<String> BOOLEANS = Set.of("tray", "write", "pour", "paint", "cover", "rule", "flicker", "mean");

    long answer(String name, int[] a) {
        switch (name) {
            case "tray": return tray(a[0], a[1], a[2]);
            case "read": return readTray(a[0], a[1]);
            case "pour": return pour(a[0], a[1], a[2], a[3], a[4]);
            case "cave": return cave(a[0]);
            case "days": return days(a[0]);
            case "told": return told(a[0]);
            case "wall": return wall(a[0], a[1]);
            case "visitor": return visitor(a[0], a[1]);
            case "measure": needVisitor(a[0]); needBeast(a[1]); return world.visitors.get(a[0]).measures.get(a[1]);
            case "who": return himselfIs6(needVisitor(a[0]));
            case "figure": return figure(a[0], a[1]);
            case "weight": needBeast(a[0]); needBeast(a[1]); return world.follows.getOrDefault(List.of(a[0], a[1]), 0);
            case "minute": return minute(a[0]);
            case "lead": return lead(a[0], a[1]);
            case "wake": return wake(a[0]);
            case "fill": return fill(a[0]);
            case "paint": return paint(a[0], a[1], a[2]);
            case "scrub": return scrub(a[0]);
            case "come": return come(a[0], a[1]);
            case "draw": return draw(a[0], a[1], a[2]);
            case "cover": return cover(a[0], a[1]);
            case "rule": need(in(a[0], 0, 16), 1); world.odds = a[0]; return 1;
            case "measureIn":
                needVisitor(a[0]); needBeast(a[1]); need(in(a[2], 0, 200), 1);
                return world.in(a[2]).visitors.get(a[0]).measures.get(a[1]);
            case "whoIn":
                needVisitor(a[0]); need(in(a[1], 0, 200), 1);
                return himselfIs6(world.in(a[1]).visitors.get(a[0]));
            case "turnIn": needVisitor(a[0]); return first(1 << a[0], true);
            case "freeIn": return first(-1, false);
            case "safe": return safe(a[0], a[1]);
            case "far": return far(a[0], a[1]);
            case "near": return near(a[0]);
            case "tour": return bestTour(a[0], a[1], a[2]).get(0);
            case "tourAt":
                need(a[3] >= 0, 1);
                List<Integer> tour = bestTour(a[0], a[1], a[2]);
                need(a[3] + 1L < tour.size(), 6);
                return tour.get(a[3] + 1);
            case "layers": return orders(null, new ArrayList<>());
            case "layerAt": return layerAt(a[0]);
            case "low": return low(a[0]);
            case "hands": need(in(a[0], 0, 18), 1); return hands(a[0], 0, new ArrayList<>());
            case "hand": return hand(a[0]);
            case "rows": need(in(a[0], 1, 12), 1); return rows(a[0], -1);
            case "rowsTo": need(in(a[0], 1, 12), 1); needBeast(a[1]); return rows(a[0], a[1]);
            case "likeliest": need(in(a[0], 1, 8), 1); return likeliest(a[0]).get(0);
            case "likeliestAt":
                need(in(a[0], 1, 8) && a[1] >= 0, 1);
                List<Integer> row = likeliest(a[0]);
                need(a[1] < a[0], 6);
                return row.get(a[1] + 1);
            case "fits": return selves(a[0], a[1], a[2]).size();
            case "fitsAt":
                need(in(a[3], 0, 1), 1);
                List<Integer> fit = selves(a[0], a[1], a[2]);
                need(!fit.isEmpty(), 6);
                return a[3] == 0 ? fit.get(0) : fit.get(fit.size() - 1);
            case "ask": return ask(a[0], a[1], a[2]);
            case "game": needVisitor(a[0]); need(in(a[1], 0, 4), 1); return guide(world, a[0], a[1], new int[1]);
            case "moveOf":
                needVisitor(a[0]); need(in(a[1], 1, 4), 1);
                int[] move = new int[1];
                guide(world, a[0], a[1], move);
                need(move[0] >= 0, 6);
                return move[0];
            case "flicker": return flicker(a[0], a[1]);
            case "copyMost": return copyMost(a[0]);
            case "live": return live(a[0]);
            case "lived":
                need(in(a[0], 0, 4), 1);
                need(lived != null, 6);
                return lived[a[0]];
            case "mean": return mean(a[0], a[1]);
            case "mark":
                need(marks.size() < 3, 4);
                marks.add(world.copy());
                return marks.size();
            case "undo":
                need(!marks.isEmpty(), 6);
                world = marks.remove(marks.size() - 1);
                return marks.size();
            default: throw new IllegalArgumentException(name);
        }
    }

    long tray(int t, int sort, int many) {
        need(in(t, 0, 3) && in(sort, 0, 3) && in(many, 0, 60), 1);
        trays[t] = new long[many];
        sorts[t] = sort;
        return 1;
    }

    void needTray(int t) {
        need(in(t, 0, 3), 1);
        need(trays[t] != null, 2);
    }

    long write(int t, int place, long v) {
        needTray(t);
        need(in(place, 0, trays[t].length - 1), 3);
        int bits = 8 << sorts[t];
        BigInteger cut = BigInteger.valueOf(v).mod(BigInteger.ONE.shiftLeft(bits));
        if (cut.testBit(bits - 1)) {
            cut = cut.subtract(BigInteger.ONE.shiftLeft(bits));
        }
        trays[t][place] = cut.longValueExact();
        return 1;
    }

    long readTray(int t, int place) {
        needTray(t);
        need(in(place, 0, trays[t].length - 1), 3);
        return trays[t][place];
    }

    long pour(int from, int place, int to, int at, int many) {
        need(in(from, 0, 3) && in(to, 0, 3) && place >= 0 && at >= 0 && many >= 0, 1);
        need(trays[from] != null && trays[to] != null, 2);
        need(sorts[from] == sorts[to], 8);
        need((long) place + many <= trays[from].length && (long) at + many <= trays[to].length, 3);
        long[] kept = trays[from].clone();
        for (int i = 0; i < many; i++) {
            trays[to][at + i] = kept[place + i];
        }
        return 1;
    }

    long feed(int[] a) {
        if (tape.length() + 20 > 900) {
            return -1;
        }
        StringBuilder s = new StringBuilder(tape);
        for (int x : a) {
            for (int shift = 24; shift >= 0; shift -= 8) {
                s.append((char) (x >>> shift & 255));
            }
        }
        tape = s.toString();
        return tape.length();
    }

    String cutTape(int n) {
        String text = tape.substring(0, n);
        tape = "";
        faultKind = 0;
        faultPlace = -1;
        return text;
    }

    void keep(Fault f) {
        faultKind = f.kind;
        faultPlace = f.place;
        throw new Refused(9);
    }

    long cave(int n) {
        need(in(n, 0, tape.length()), 1);
        World told = new World();
        try {
            new Parser(cutTape(n), told).cave();
        } catch (Fault f) {
            keep(f);
        }
        world = told;
        return world.visitors.size();
    }

    long days(int n) {
        need(in(n, 0, Math.min(300, tape.length())), 1);
        try {
            Parser p = new Parser(cutTape(n), world);
            world.days = p.days(0);
            return p.steps;
        } catch (Fault f) {
            keep(f);
            return -1;
        }
    }

    long told(int what) {
        need(in(what, 0, 9), 1);
        int bare = 0;
        for (int w = 0; w < world.walls.size(); w++) {
            bare |= world.walls.get(w).beast == null ? 1 << w : 0;
        }
        int going = 0;
        for (int v = 0; v < world.visitors.size(); v++) {
            going |= world.visitors.get(v).toGo > 0 ? 1 << v : 0;
        }
        return new int[] {world.beasts, world.walls.size(), world.visitors.size(), world.figures.size(), world.lamp,
            world.odds, world.minute, bare, world.turnedSet(), going}[what];
    }

    long wall(int w, int what) {
        needWall(w);
        need(in(what, 0, 1), 1);
        need(world.walls.get(w).beast != null, 6);
        return what == 0 ? world.walls.get(w).beast : world.walls.get(w).pull;
    }

    long visitor(int v, int what) {
        Visitor x = needVisitor(v);
        need(in(what, 0, 3), 1);
        return new int[] {x.self, x.at, x.toGo, x.most()}[what];
    }

    long himselfIs6(Visitor v) {
        need(v.turned(), 6);
        return v.beast();
    }

    long figure(int f, int what) {
        Figure x = needFigure(f);
        need(in(what, 0, 3), 1);
        int set = x.over.stream().mapToInt(i -> 1 << i).sum();
        return new int[] {x.beast, x.one, x.two, set}[what];
    }

    long minute(int many) {
        need(in(many, 1, 240), 1);
        need(world.minute + many <= 9999, 4);
        world = withDaysOf(world, world.in(many));
        return Integer.bitCount(world.turnedSet());
    }

    static World withDaysOf(World old, World next) {
        next.days = old.days;
        return next;
    }

    long lead(int v, int w) {
        needVisitor(v);
        needWall(w);
        need(world.canLead(v, w), 7);
        world.lead(v, w);
        return world.visitors.get(v).toGo;
    }

    long wake(int v) {
        Visitor x = needVisitor(v);
        need(x.most() > 0, 7);
        x.measures.replaceAll(m -> m / 2);
        return x.most();
    }

    long fill(int m) {
        need(in(m, 1, 99), 1);
        need(world.lamp + m <= 999, 4);
        world.lamp += m;
        return world.lamp;
    }

    long paint(int w, int b, int pull) {
        needWall(w);
        needBeast(b);
        need(in(pull, 1, 9), 1);
        world.walls.get(w).beast = b;
        world.walls.get(w).pull = pull;
        return 1;
    }

    long scrub(int w) {
        needWall(w);
        need(world.walls.get(w).beast != null, 7);
        int was = world.walls.get(w).beast;
        world.walls.get(w).beast = null;
        return was;
    }

    long come(int self, int w) {
        need(in(self, 1, 60), 1);
        needWall(w);
        need(world.visitors.size() < 6, 4);
        Visitor v = new Visitor();
        v.self = self;
        v.at = w;
        for (int b = 0; b < world.beasts; b++) {
            v.measures.add(0);
        }
        world.visitors.add(v);
        return world.visitors.size() - 1;
    }

    long draw(int b, int one, int two) {
        needBeast(b);
        need(in(one, 0, 9) && in(two, 0, 9), 1);
        need(world.figures.size() < 8, 4);
        Figure f = new Figure();
        f.beast = b;
        f.one = one;
        f.two = two;
        world.figures.add(f);
        return world.figures.size() - 1;
    }

    long cover(int f, int g) {
        needFigure(f);
        needFigure(g);
        need(f != g, 1);
        need(world.figures.get(f).over.add(g), 7);
        return 1;
    }

    /** The first minute at which one of the set is turned, or none of it is. */
    long first(int set, boolean turned) {
        World w = world.copy();
        for (int t = 0; t <= 200; t++) {
            if ((w.turnedSet() & set) != 0 == turned) {
                return t;
            }
            w.pass();
        }
        throw new Refused(6);
    }

    long safe(int v, int w) {
        needVisitor(v);
        needWall(w);
        need(world.walls.get(w).beast != null, 6);
        World x = world.copy();
        Visitor him = x.visitors.get(v);
        him.at = w;
        him.toGo = 0;
        int minutes = 0;
        while (!him.turned()) {
            x.lamp = 50;
            x.pass();
            minutes++;
        }
        return Math.max(0, minutes - 1);
    }

    long far(int a, int b) {
        needWall(a);
        needWall(b);
        int d = world.far(a, b, Set.of(a));
        need(d >= 0, 6);
        return d;
    }

    long near(int w) {
        needWall(w);
        int set = 0;
        for (int x = 0; x < world.walls.size(); x++) {
            set |= world.shortest(w, x) > 0 ? 1 << x : 0;
        }
        return set;
    }

    static List<List<Integer>> permutations(List<Integer> of) {
        if (of.isEmpty()) {
            return List.of(List.of());
        }
        List<List<Integer>> all = new ArrayList<>();
        for (Integer x : of) {
            List<Integer> rest = new ArrayList<>(of);
            rest.remove(x);
            for (List<Integer> p : permutations(rest)) {
                List<Integer> q = new ArrayList<>(List.of(x));
                q.addAll(p);
                all.add(q);
            }
        }
        return all;
    }

    /** The time, then the walls. */
    List<Integer> bestTour(int v, int set, int minutes) {
        needVisitor(v);
        need(in(minutes, 1, 9) && set >= 0 && set >> world.walls.size() == 0 && Integer.bitCount(set) <= 5, 1);
        need(!world.visitors.get(v).turned() && world.visitors.get(v).toGo == 0, 7);
        List<Integer> walls = new ArrayList<>();
        for (int w = 0; w < world.walls.size(); w++) {
            if ((set >> w & 1) == 1) {
                walls.add(w);
            }
        }
        List<Integer> best = null;
        for (List<Integer> order : permutations(walls)) {
            int time = timeOf(v, order, minutes);
            if (time >= 0 && (best == null || time < best.get(0))) {
                best = new ArrayList<>(List.of(time));
                best.addAll(order);
            }
        }
        need(best != null, 6);
        return best;
    }

    int timeOf(int v, List<Integer> order, int minutes) {
        World w = world.copy();
        Visitor him = w.visitors.get(v);
        int time = 0;
        for (int wall : order) {
            int d = w.far(him.at, wall, Set.of(him.at));
            if (d < 0) {
                return -1;
            }
            him.at = wall;
            him.toGo = d;
            for (int i = 0; i < d + minutes; i++) {
                w.lamp = 9;
                w.pass();
                time++;
                if (him.turned()) {
                    return -1;
                }
            }
        }
        return time;
    }

    /** How many orders begin so; the first whole one comes into the list. */
    long orders(List<Integer> found, List<Integer> painted) {
        if (painted.size() == world.figures.size()) {
            if (found != null && found.isEmpty()) {
                found.addAll(painted);
            }
            return 1;
        }
        long sum = 0;
        for (int f = 0; f < world.figures.size(); f++) {
            if (!painted.contains(f) && painted.containsAll(world.figures.get(f).over)) {
                painted.add(f);
                sum += orders(found, painted);
                painted.remove(painted.size() - 1);
            }
        }
        return sum;
    }

    long layerAt(int k) {
        need(k >= 0, 1);
        List<Integer> found = new ArrayList<>();
        orders(found, new ArrayList<>());
        need(k < found.size(), 6);
        return found.get(k);
    }

    long low(int f) {
        needFigure(f);
        need(orders(null, new ArrayList<>()) > 0, 6);
        return below(f).size();
    }

    Set<Integer> below(int f) {
        Set<Integer> all = new HashSet<>();
        for (int g : world.figures.get(f).over) {
            all.add(g);
            all.addAll(below(g));
        }
        return all;
    }

    boolean alike(int f, int g, int n) {
        Figure a = world.figures.get(f);
        Figure b = world.figures.get(g);
        return Math.abs(a.one - b.one) + Math.abs(a.two - b.two) <= n;
    }

    /** Puts figure after figure into a set that is there or a new one. */
    long hands(int n, int f, List<List<Integer>> sets) {
        if (f == world.figures.size()) {
            return sets.size();
        }
        long best = 9;
        for (int i = 0; i < sets.size(); i++) {
            List<Integer> set = sets.get(i);
            if (set.stream().allMatch(g -> alike(f, g, n))) {
                set.add(f);
                best = Math.min(best, hands(n, f + 1, sets));
                set.remove(set.size() - 1);
            }
        }
        sets.add(new ArrayList<>(List.of(f)));
        best = Math.min(best, hands(n, f + 1, sets));
        sets.remove(sets.size() - 1);
        return best;
    }

    long hand(int n) {
        need(in(n, 0, 18), 1);
        int best = 0;
        for (int set = 0; set < 1 << world.figures.size(); set++) {
            boolean all = true;
            for (int f = 0; f < 8; f++) {
                for (int g = 0; g < f; g++) {
                    all &= (set >> f & 1) == 0 || (set >> g & 1) == 0 || alike(f, g, n);
                }
            }
            if (all && Integer.bitCount(set) > Integer.bitCount(best)) {
                best = set;
            }
        }
        return best;
    }

    long rows(int n, int last) {
        long sum = 0;
        for (int b = 0; b < world.beasts; b++) {
            if (last == -1 || last == b) {
                sum += n == 1 ? 1 : rowsBehind(n, b);
            }
        }
        return sum;
    }

    long rowsBehind(int n, int last) {
        long sum = 0;
        for (int b = 0; b < world.beasts; b++) {
            if (world.follows.containsKey(List.of(b, last))) {
                sum += rows(n - 1, b);
            }
        }
        return sum;
    }

    /** The product, then the beasts: of all rows in their order. */
    List<Integer> likeliest(int n) {
        int most = 0;
        int best = -1;
        int[][] w = new int[5][5];
        world.follows.forEach((k, v) -> w[k.get(0)][k.get(1)] = v);
        int all = (int) Math.pow(world.beasts, n);
        for (int code = 0; code < all; code++) {
            int product = 1;
            int rest = code;
            for (int i = 1; i < n; i++) {
                int second = rest % world.beasts;
                rest /= world.beasts;
                product *= w[rest % world.beasts][second];
            }
            if (product > most) {
                most = product;
                best = code;
            }
        }
        need(best >= 0, 6);
        List<Integer> row = new ArrayList<>();
        for (int i = 0, rest = best; i < n; i++, rest /= world.beasts) {
            row.add(0, rest % world.beasts);
        }
        row.add(0, most);
        return row;
    }

    List<Integer> selves(int v, int t, int n) {
        needVisitor(v);
        need(in(n, 0, 20), 1);
        needTray(t);
        need(trays[t].length >= 2 * n, 3);
        for (int i = 0; i < n; i++) {
            need(in(trays[t][2 * i], 0, 200) && in(trays[t][2 * i + 1], 0, world.beasts), 5);
        }
        List<Integer> all = new ArrayList<>();
        World[] then = new World[n];
        for (int i = 0; i < n; i++) {
            then[i] = world.in((int) trays[t][2 * i]);
        }
        for (int self = 1; self <= 60; self++) {
            boolean fit = true;
            for (int i = 0; i < n; i++) {
                Visitor him = then[i].visitors.get(v);
                him.self = self;
                fit &= him.beast() == trays[t][2 * i + 1];
            }
            if (fit) {
                all.add(self);
            }
        }
        return all;
    }

    long ask(int v, int t, int n) {
        List<Integer> all = selves(v, t, n);
        need(all.size() >= 2, 6);
        int best = -1;
        int fewest = 99;
        for (int m = 0; m <= 60; m++) {
            Visitor him = world.in(m).visitors.get(v);
            int[] count = new int[6];
            for (int self : all) {
                him.self = self;
                count[him.beast()]++;
            }
            int most = Arrays.stream(count).max().getAsInt();
            if (most < fewest) {
                fewest = most;
                best = m;
            }
        }
        return best;
    }

    long guide(World w, int v, int turns, int[] move) {
        Visitor him = w.visitors.get(v);
        if (turns == 0) {
            return him.self - him.most();
        }
        long best = Long.MIN_VALUE;
        for (int wall = 0; wall <= w.walls.size(); wall++) {
            World x = w.copy();
            if (wall < w.walls.size()) {
                if (!x.canLead(v, wall)) {
                    continue;
                }
                x.lead(v, wall);
            }
            x.pass();
            long value = beast(x, v, turns - 1);
            if (value > best) {
                best = value;
                move[0] = wall < w.walls.size() ? wall : -1;
            }
        }
        return best;
    }

    long beast(World w, int v, int turns) {
        Visitor him = w.visitors.get(v);
        if (turns == 0) {
            return him.self - him.most();
        }
        long worst = Long.MAX_VALUE;
        for (int wall = -1; wall < w.walls.size(); wall++) {
            World x = w.copy();
            if (wall >= 0) {
                if (x.walls.get(wall).beast == null) {
                    continue;
                }
                x.walls.get(wall).pull = Math.min(9, x.walls.get(wall).pull + 1);
            }
            x.pass();
            worst = Math.min(worst, guide(x, v, turns - 1, new int[1]));
        }
        return worst;
    }

    void tell(BigInteger a, BigInteger b) {
        BigInteger g = a.gcd(b);
        top = a.divide(g);
        bottom = b.divide(g);
    }

    long flicker(int n, int k) {
        need(in(n, 0, 12) && in(k, 0, 12), 1);
        BigInteger sum = BigInteger.ZERO;
        for (int lit = 0; lit < 1 << n; lit++) {
            if (Integer.bitCount(lit) >= k) {
                BigInteger one = BigInteger.ONE;
                for (int i = 0; i < n; i++) {
                    one = one.multiply(BigInteger.valueOf((lit >> i & 1) == 1 ? world.odds : 16 - world.odds));
                }
                sum = sum.add(one);
            }
        }
        tell(sum, BigInteger.valueOf(16).pow(n));
        return 1;
    }

    long copyMost(int t) {
        needTray(t);
        need(trays[t].length >= world.visitors.size(), 3);
        for (int v = 0; v < world.visitors.size(); v++) {
            trays[t][v] = world.visitors.get(v).most();
        }
        return world.visitors.size();
    }

    // ---- days

    static final class Over extends RuntimeException {
    }

    static final class Run {
        World w;
        long s;
        int steps;
        int[] told = new int[5];

        int pick(int n) {
            s = (s * 3191 + 11423) % 65536;
            return (int) (s / 8 % n);
        }

        void all(List<Step> list) {
            for (Step step : list) {
                one(step);
            }
        }

        void one(Step step) {
            if (steps == 300) {
                told[4] = 1;
                throw new Over();
            }
            steps++;
            boolean done = true;
            switch (step.word) {
                case "stop" -> throw new Over();
                case "loop" -> {
                    for (int i = 0; i < step.number; i++) {
                        all(step.inside);
                    }
                }
                case "when" -> {
                    if (holds(step)) {
                        all(step.inside);
                    }
                }
                case "minute" -> {
                    done = w.minute + step.number <= 9999;
                    for (int i = 0; i < step.number && done; i++) {
                        int before = w.turnedSet();
                        w.pass();
                        told[1]++;
                        told[3] += Integer.bitCount(w.turnedSet() & ~before);
                    }
                }
                case "fill" -> {
                    done = w.lamp + step.number <= 999;
                    w.lamp += done ? step.number : 0;
                }
                case "wake" -> {
                    Visitor v = w.visitors.get(step.visitor);
                    done = v.most() > 0;
                    v.measures.replaceAll(m -> m / 2);
                }
                case "lead" -> done = lead(step.visitor, step.wall);
                case "any" -> {
                    if (w.visitors.isEmpty()) {
                        done = false;
                    } else {
                        int v = pick(w.visitors.size());
                        int wall = pick(w.walls.size());
                        done = lead(v, wall);
                    }
                }
                default -> throw new IllegalStateException();
            }
            told[0] += done ? 0 : 1;
        }

        boolean lead(int v, int wall) {
            if (!w.canLead(v, wall)) {
                return false;
            }
            w.lead(v, wall);
            told[2]++;
            return true;
        }

        boolean holds(Step step) {
            if (step.test.equals("dark")) {
                return w.lamp == 0;
            }
            Visitor v = w.visitors.get(step.visitor);
            switch (step.test) {
                case "turned": return v.turned();
                case "at": return v.at == step.wall;
                default:
                    return step.sign.equals("<") ? v.most() < step.number
                        : step.sign.equals(">") ? v.most() > step.number : v.most() == step.number;
            }
        }
    }

    Run run(World w, int seed) {
        Run run = new Run();
        run.w = w;
        run.s = seed;
        try {
            run.all(w.days);
        } catch (Over end) {
            return run;
        }
        return run;
    }

    long live(int seed) {
        need(in(seed, 0, 9999), 1);
        need(world.days != null, 6);
        Run run = run(world, seed);
        lived = run.told;
        return run.steps;
    }

    long mean(int seed, int many) {
        need(seed >= 0 && in(many, 1, 20) && (long) seed + many - 1 <= 9999, 1);
        need(world.days != null, 6);
        int sum = 0;
        for (int i = 0; i < many; i++) {
            World w = world.copy();
            run(w, seed + i);
            sum += Integer.bitCount(w.turnedSet());
        }
        tell(BigInteger.valueOf(sum), BigInteger.valueOf(many));
        return 1;
    }
}
