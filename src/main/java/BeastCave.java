import java.util.Arrays;

/** A cave painted from the inside of the beast. What each call answers stands in ../shared/DOC.md. */
public final class BeastCave {

    public static final int NONE = -1;

    private static final int MOST_BEASTS = 5;
    private static final int MOST_WALLS = 7;
    private static final int MOST_WAYS = 10;
    private static final int MOST_VISITORS = 6;
    private static final int MOST_FIGURES = 8;
    private static final int MOST_NAMES = MOST_BEASTS + MOST_WALLS + MOST_VISITORS + MOST_FIGURES;
    private static final int MOST_SELF = 60;
    private static final int MOST_PULL = 9;
    private static final int MOST_STYLE = 9;
    private static final int MOST_ODDS = 16;
    private static final int MOST_MEASURE = 99;
    private static final int MOST_LAMP = 999;
    private static final int LAST_MINUTE = 9999;
    private static final int LAST_SEED = 9999;
    private static final int MOST_AHEAD = 200;
    private static final int MOST_MARKS = 3;
    private static final int MOST_TAPE = 900;
    private static final int MOST_DAYS_TEXT = 300;

    // What STATUS says of a call that can't be answered.
    private static final int WRONG_NUMBER = 1;
    private static final int TRAY_MISSING = 2;
    private static final int NO_PLACE = 3;
    private static final int ONE_TOO_MANY = 4;
    private static final int WRONG_IN_TRAY = 5;
    private static final int NONE_SUCH = 6;
    private static final int CANNOT_BE = 7;
    private static final int UNLIKE_SORTS = 8;
    private static final int FAULTY_TEXT = 9;

    private int state;
    private long fractionTop;
    private long fractionBottom = 1;
    private boolean hasLived;
    private final int[] livedLast = new int[5];

    private final Trays trays = new Trays();
    private final Text text = new Text();
    private final Reader reader = new Reader(text);
    private final Life life = new Life();
    private final Ahead ahead = new Ahead();
    private final Search search = new Search();
    private final int[] table = new int[2 << MOST_FIGURES];

    private Cave now = new Cave();
    private Cave spare = new Cave();
    private Days plan = new Days();
    private Days sparePlan = new Days();
    private int marks;
    private final Cave[] markedCaves = new Cave[MOST_MARKS];
    private final Days[] markedPlans = new Days[MOST_MARKS];

    public BeastCave() {
        for (int i = 0; i < MOST_MARKS; i++) {
            markedCaves[i] = new Cave();
            markedPlans[i] = new Days();
        }
    }

    public int status() {
        return state;
    }

    public long top() {
        return fractionTop;
    }

    public long bottom() {
        return fractionBottom;
    }

    // ---- TRAYS

    public boolean tray(int tray, int sort, int many) {
        if (!Trays.isTray(tray) || !within(sort, 0, 3) || !within(many, 0, Trays.MOST_CELLS)) {
            return deny(WRONG_NUMBER);
        }
        trays.lay(tray, sort, many);
        return grant();
    }

    public boolean write(int tray, int place, long v) {
        int wrong = statusOfPlace(tray, place);
        if (wrong != 0) {
            return deny(wrong);
        }
        trays.put(tray, place, v);
        return grant();
    }

    public long read(int tray, int place) {
        int wrong = statusOfPlace(tray, place);
        if (wrong != 0) {
            return refuse(wrong);
        }
        state = 0;
        return trays.at(tray, place);
    }

    public boolean pour(int from, int place, int to, int at, int many) {
        if (!Trays.isTray(from) || !Trays.isTray(to) || place < 0 || at < 0 || many < 0) {
            return deny(WRONG_NUMBER);
        }
        if (trays.isMissing(from) || trays.isMissing(to)) {
            return deny(TRAY_MISSING);
        }
        if (trays.sortOf(from) != trays.sortOf(to)) {
            return deny(UNLIKE_SORTS);
        }
        if (!trays.reaches(from, place, many) || !trays.reaches(to, at, many)) {
            return deny(NO_PLACE);
        }
        trays.move(from, place, to, at, many);
        return grant();
    }

    // ---- texts

    public int feed(int a, int b, int c, int d, int e) {
        if (text.size > MOST_TAPE - 20) {
            return NONE;
        }
        text.append(a);
        text.append(b);
        text.append(c);
        text.append(d);
        text.append(e);
        return text.size;
    }

    public int cave(int n) {
        if (!within(n, 0, text.size)) {
            return refuse(WRONG_NUMBER);
        }
        boolean taken = reader.takeCave(n, spare);
        if (!taken) {
            return refuse(FAULTY_TEXT);
        }
        Cave old = now;
        now = spare;
        spare = old;
        plan.clear();
        return answer(now.visitors);
    }

    public int days(int n) {
        if (!within(n, 0, Math.min(text.size, MOST_DAYS_TEXT))) {
            return refuse(WRONG_NUMBER);
        }
        boolean taken = reader.takeDays(n, now, sparePlan);
        if (!taken) {
            return refuse(FAULTY_TEXT);
        }
        Days old = plan;
        plan = sparePlan;
        sparePlan = old;
        return answer(plan.steps);
    }

    public int fault(int what) {
        if (what == 0) {
            return text.fault;
        }
        return what == 1 ? text.faultPlace : NONE;
    }

    public int told(int what) {
        switch (what) {
            case 0: return answer(now.beasts.count);
            case 1: return answer(now.walls.count);
            case 2: return answer(now.visitors);
            case 3: return answer(now.figures.count);
            case 4: return answer(now.lamp);
            case 5: return answer(now.odds);
            case 6: return answer(now.minutes);
            case 7: return answer(now.walls.bareOnes());
            case 8: return answer(now.turnedOnes());
            case 9: return answer(now.goingOnes());
            default: return refuse(WRONG_NUMBER);
        }
    }

    public int wall(int wall, int what) {
        if (!isWall(wall) || !within(what, 0, 1)) {
            return refuse(WRONG_NUMBER);
        }
        if (now.walls.beast[wall] == NONE) {
            return refuse(NONE_SUCH);
        }
        return answer(what == 0 ? now.walls.beast[wall] : now.walls.pull[wall]);
    }

    public int visitor(int visitor, int what) {
        if (!isVisitor(visitor)) {
            return refuse(WRONG_NUMBER);
        }
        switch (what) {
            case 0: return answer(now.selves[visitor]);
            case 1: return answer(now.places[visitor]);
            case 2: return answer(now.toGo[visitor]);
            case 3: return answer(now.greatestOf(visitor));
            default: return refuse(WRONG_NUMBER);
        }
    }

    public int measure(int visitor, int beast) {
        if (!isVisitor(visitor) || !isBeast(beast)) {
            return refuse(WRONG_NUMBER);
        }
        return answer(now.measures[visitor * MOST_BEASTS + beast]);
    }

    public int who(int visitor) {
        if (!isVisitor(visitor)) {
            return refuse(WRONG_NUMBER);
        }
        if (!now.isTurned(visitor)) {
            return refuse(NONE_SUCH);
        }
        return answer(Cave.foremost(now.measures, visitor * MOST_BEASTS));
    }

    public int figure(int figure, int what) {
        if (!isFigure(figure)) {
            return refuse(WRONG_NUMBER);
        }
        switch (what) {
            case 0: return answer(now.figures.beast[figure]);
            case 1: return answer(now.figures.style[figure]);
            case 2: return answer(now.figures.other[figure]);
            case 3: return answer(now.figures.over[figure]);
            default: return refuse(WRONG_NUMBER);
        }
    }

    public int weight(int beast, int next) {
        if (!isBeast(beast) || !isBeast(next)) {
            return refuse(WRONG_NUMBER);
        }
        return answer(now.beasts.weights[beast * MOST_BEASTS + next]);
    }

    // ---- what is done

    public int minute(int many) {
        if (!within(many, 1, 240)) {
            return refuse(WRONG_NUMBER);
        }
        if (now.minutes > LAST_MINUTE - many) {
            return refuse(ONE_TOO_MANY);
        }
        for (int i = 0; i < many; i++) {
            now.passMinute();
        }
        return answer(Integer.bitCount(now.turnedOnes()));
    }

    public int lead(int visitor, int wall) {
        if (!isVisitor(visitor) || !isWall(wall)) {
            return refuse(WRONG_NUMBER);
        }
        if (!now.goTo(visitor, wall)) {
            return refuse(CANNOT_BE);
        }
        return answer(now.toGo[visitor]);
    }

    public int wake(int visitor) {
        if (!isVisitor(visitor)) {
            return refuse(WRONG_NUMBER);
        }
        if (!now.rouse(visitor)) {
            return refuse(CANNOT_BE);
        }
        return answer(now.greatestOf(visitor));
    }

    public int fill(int minutes) {
        if (!within(minutes, 1, 99)) {
            return refuse(WRONG_NUMBER);
        }
        if (!now.addOil(minutes)) {
            return refuse(ONE_TOO_MANY);
        }
        return answer(now.lamp);
    }

    public boolean paint(int wall, int beast, int pull) {
        if (!isWall(wall) || !isBeast(beast) || !within(pull, 1, MOST_PULL)) {
            return deny(WRONG_NUMBER);
        }
        now.walls.beast[wall] = beast;
        now.walls.pull[wall] = pull;
        return grant();
    }

    public int scrub(int wall) {
        if (!isWall(wall)) {
            return refuse(WRONG_NUMBER);
        }
        int beast = now.walls.beast[wall];
        if (beast == NONE) {
            return refuse(CANNOT_BE);
        }
        now.walls.beast[wall] = NONE;
        now.walls.pull[wall] = 0;
        return answer(beast);
    }

    public int come(int self, int wall) {
        if (!within(self, 1, MOST_SELF) || !isWall(wall)) {
            return refuse(WRONG_NUMBER);
        }
        if (now.visitors >= MOST_VISITORS) {
            return refuse(ONE_TOO_MANY);
        }
        now.addVisitor(self, wall);
        return answer(now.visitors - 1);
    }

    public int draw(int beast, int style, int other) {
        if (!isBeast(beast) || !within(style, 0, MOST_STYLE) || !within(other, 0, MOST_STYLE)) {
            return refuse(WRONG_NUMBER);
        }
        if (now.figures.count >= MOST_FIGURES) {
            return refuse(ONE_TOO_MANY);
        }
        now.figures.add(beast, style, other);
        return answer(now.figures.count - 1);
    }

    public boolean cover(int figure, int other) {
        if (!isFigure(figure) || !isFigure(other) || figure == other) {
            return deny(WRONG_NUMBER);
        }
        if (has(now.figures.over[figure], other)) {
            return deny(CANNOT_BE);
        }
        now.figures.over[figure] |= 1 << other;
        return grant();
    }

    public boolean rule(int odds) {
        if (!within(odds, 0, MOST_ODDS)) {
            return deny(WRONG_NUMBER);
        }
        now.odds = odds;
        return grant();
    }

    // ---- MINUTES ahead

    public int measureIn(int visitor, int beast, int minutes) {
        if (!isVisitor(visitor) || !isBeast(beast) || !within(minutes, 0, MOST_AHEAD)) {
            return refuse(WRONG_NUMBER);
        }
        ahead.watch(now, visitor, minutes);
        return answer(ahead.row[beast]);
    }

    public int whoIn(int visitor, int minutes) {
        if (!isVisitor(visitor) || !within(minutes, 0, MOST_AHEAD)) {
            return refuse(WRONG_NUMBER);
        }
        ahead.watch(now, visitor, minutes);
        if (ahead.most[minutes] <= now.selves[visitor]) {
            return refuse(NONE_SUCH);
        }
        return answer(ahead.first[minutes]);
    }

    public int turnIn(int visitor) {
        if (!isVisitor(visitor)) {
            return refuse(WRONG_NUMBER);
        }
        ahead.watch(now, visitor, MOST_AHEAD);
        for (int t = 0; t <= MOST_AHEAD; t++) {
            if (ahead.most[t] > now.selves[visitor]) {
                return answer(t);
            }
        }
        return refuse(NONE_SUCH);
    }

    public int freeIn() {
        spare.copyOf(now);
        for (int t = 0; t <= MOST_AHEAD; t++) {
            if (spare.turnedOnes() == 0) {
                return answer(t);
            }
            spare.passMinute();
        }
        return refuse(NONE_SUCH);
    }

    public int safe(int visitor, int wall) {
        if (!isVisitor(visitor) || !isWall(wall)) {
            return refuse(WRONG_NUMBER);
        }
        if (now.walls.beast[wall] == NONE) {
            return refuse(NONE_SUCH);
        }
        return answer(ahead.longestLook(now, visitor, wall));
    }

    // ---- ways

    public int far(int wall, int other) {
        if (!isWall(wall) || !isWall(other)) {
            return refuse(WRONG_NUMBER);
        }
        int distance = now.walls.distance[wall * MOST_WALLS + other];
        return distance == NONE ? refuse(NONE_SUCH) : answer(distance);
    }

    public int near(int wall) {
        if (!isWall(wall)) {
            return refuse(WRONG_NUMBER);
        }
        return answer(now.walls.nextTo(wall));
    }

    public int tour(int visitor, int walls, int minutes) {
        int wrong = statusOfTour(visitor, walls, minutes);
        return wrong != 0 ? refuse(wrong) : answer(search.bestTime);
    }

    public int tourAt(int visitor, int walls, int minutes, int k) {
        int wrong = k < 0 ? WRONG_NUMBER : statusOfTour(visitor, walls, minutes);
        if (wrong != 0) {
            return refuse(wrong);
        }
        if (k >= Integer.bitCount(walls) || k >= search.bestOrder.length) {
            return refuse(NONE_SUCH);
        }
        return answer(search.bestOrder[k]);
    }

    // ---- layers, hands, rows

    public int layers() {
        return answer(now.figures.countOrders(table));
    }

    public int layerAt(int k) {
        if (k < 0) {
            return refuse(WRONG_NUMBER);
        }
        int figure = k < now.figures.count ? now.figures.inFirstOrder(k) : NONE;
        return figure == NONE ? refuse(NONE_SUCH) : answer(figure);
    }

    public int low(int figure) {
        if (!isFigure(figure)) {
            return refuse(WRONG_NUMBER);
        }
        if (now.figures.inFirstOrder(0) == NONE) {
            return refuse(NONE_SUCH);
        }
        return answer(Integer.bitCount(now.figures.allBelow(figure)));
    }

    public int hands(int n) {
        if (!within(n, 0, 2 * MOST_STYLE)) {
            return refuse(WRONG_NUMBER);
        }
        return answer(now.figures.fewestSets(n, table));
    }

    public int hand(int n) {
        if (!within(n, 0, 2 * MOST_STYLE)) {
            return refuse(WRONG_NUMBER);
        }
        return answer(now.figures.greatestSet(n, table));
    }

    public long rows(int n) {
        if (!within(n, 1, 12)) {
            return refuse(WRONG_NUMBER);
        }
        now.beasts.countRows(n, table);
        int sum = 0;
        for (int b = 0; b < now.beasts.count; b++) {
            sum += table[b];
        }
        return answer(sum);
    }

    public long rowsTo(int n, int beast) {
        if (!within(n, 1, 12) || !isBeast(beast)) {
            return refuse(WRONG_NUMBER);
        }
        now.beasts.countRows(n, table);
        return answer(table[beast]);
    }

    public int likeliest(int n) {
        if (!within(n, 1, 8)) {
            return refuse(WRONG_NUMBER);
        }
        int product = now.beasts.greatestProduct(n, table);
        return product == 0 ? refuse(NONE_SUCH) : answer(product);
    }

    public int likeliestAt(int n, int k) {
        if (!within(n, 1, 8) || k < 0) {
            return refuse(WRONG_NUMBER);
        }
        if (k >= n || now.beasts.greatestProduct(n, table) == 0) {
            return refuse(NONE_SUCH);
        }
        return answer(now.beasts.inBestRow(n, k, table));
    }

    // ---- what was seen

    public int fits(int visitor, int tray, int n) {
        int wrong = statusOfSeen(visitor, tray, n);
        if (wrong != 0) {
            return refuse(wrong);
        }
        return answer(Long.bitCount(ahead.fittingSelves(now, visitor, trays, tray, n)));
    }

    public int fitsAt(int visitor, int tray, int n, int what) {
        int wrong = within(what, 0, 1) ? statusOfSeen(visitor, tray, n) : WRONG_NUMBER;
        if (wrong != 0) {
            return refuse(wrong);
        }
        long selves = ahead.fittingSelves(now, visitor, trays, tray, n);
        for (int i = 1; i <= MOST_SELF; i++) {
            int self = what == 0 ? i : MOST_SELF + 1 - i;
            if ((selves >> self & 1) != 0) {
                return answer(self);
            }
        }
        return refuse(NONE_SUCH);
    }

    public int ask(int visitor, int tray, int n) {
        int wrong = statusOfSeen(visitor, tray, n);
        if (wrong != 0) {
            return refuse(wrong);
        }
        long selves = ahead.fittingSelves(now, visitor, trays, tray, n);
        if (Long.bitCount(selves) < 2) {
            return refuse(NONE_SUCH);
        }
        return answer(ahead.bestParting(selves));
    }

    // ---- games, odds

    public int game(int visitor, int turns) {
        if (!isVisitor(visitor) || !within(turns, 0, Search.MOST_TURNS)) {
            return refuse(WRONG_NUMBER);
        }
        return answer(search.playGame(now, visitor, turns));
    }

    public int moveOf(int visitor, int turns) {
        if (!isVisitor(visitor) || !within(turns, 1, Search.MOST_TURNS)) {
            return refuse(WRONG_NUMBER);
        }
        search.playGame(now, visitor, turns);
        return search.firstMove == NONE ? refuse(NONE_SUCH) : answer(search.firstMove);
    }

    public boolean flicker(int n, int k) {
        if (!within(n, 0, 12) || !within(k, 0, 12)) {
            return deny(WRONG_NUMBER);
        }
        long sum = 0;
        for (int lit = k; lit <= n; lit++) {
            sum += choices(n, lit) * power(now.odds, lit) * power(MOST_ODDS - now.odds, n - lit);
        }
        tellFraction(sum, power(MOST_ODDS, n));
        return grant();
    }

    public int copyMost(int tray) {
        if (!Trays.isTray(tray)) {
            return refuse(WRONG_NUMBER);
        }
        if (trays.isMissing(tray)) {
            return refuse(TRAY_MISSING);
        }
        if (!trays.reaches(tray, 0, now.visitors)) {
            return refuse(NO_PLACE);
        }
        for (int v = 0; v < now.visitors; v++) {
            trays.put(tray, v, now.greatestOf(v));
        }
        return answer(now.visitors);
    }

    // ---- DAYS

    public int live(int seed) {
        if (!within(seed, 0, LAST_SEED)) {
            return refuse(WRONG_NUMBER);
        }
        if (!plan.isTold) {
            return refuse(NONE_SUCH);
        }
        life.run(now, plan, seed);
        hasLived = true;
        livedLast[0] = life.missed;
        livedLast[1] = life.minutes;
        livedLast[2] = life.led;
        livedLast[3] = life.turned;
        livedLast[4] = life.left;
        return answer(life.steps);
    }

    public int lived(int what) {
        if (!within(what, 0, livedLast.length - 1)) {
            return refuse(WRONG_NUMBER);
        }
        return hasLived ? answer(livedLast[what]) : refuse(NONE_SUCH);
    }

    public boolean mean(int seed, int many) {
        if (!within(seed, 0, LAST_SEED) || !within(many, 1, 20) || seed > LAST_SEED + 1 - many) {
            return deny(WRONG_NUMBER);
        }
        if (!plan.isTold) {
            return deny(NONE_SUCH);
        }
        int sum = 0;
        for (int i = 0; i < many; i++) {
            spare.copyOf(now);
            life.run(spare, plan, seed + i);
            sum += Integer.bitCount(spare.turnedOnes());
        }
        tellFraction(sum, many);
        return grant();
    }

    // ---- MARKS

    public int mark() {
        if (marks >= MOST_MARKS) {
            return refuse(ONE_TOO_MANY);
        }
        markedCaves[marks].copyOf(now);
        markedPlans[marks].copyOf(plan);
        marks++;
        return answer(marks);
    }

    public int undo() {
        if (marks <= 0) {
            return refuse(NONE_SUCH);
        }
        marks--;
        now.copyOf(markedCaves[marks]);
        plan.copyOf(markedPlans[marks]);
        return answer(marks);
    }

    // ---- what the calls share

    private int answer(int value) {
        state = 0;
        return value;
    }

    private int refuse(int why) {
        state = why;
        return NONE;
    }

    private boolean grant() {
        state = 0;
        return true;
    }

    private boolean deny(int why) {
        state = why;
        return false;
    }

    private static boolean within(int value, int low, int high) {
        return value >= low && value <= high;
    }

    private static boolean has(int set, int member) {
        return (set >> member & 1) != 0;
    }

    private boolean isBeast(int beast) {
        return within(beast, 0, now.beasts.count - 1);
    }

    private boolean isWall(int wall) {
        return within(wall, 0, now.walls.count - 1);
    }

    private boolean isVisitor(int visitor) {
        return within(visitor, 0, now.visitors - 1);
    }

    private boolean isFigure(int figure) {
        return within(figure, 0, now.figures.count - 1);
    }

    private int statusOfPlace(int tray, int place) {
        if (!Trays.isTray(tray)) {
            return WRONG_NUMBER;
        }
        if (trays.isMissing(tray)) {
            return TRAY_MISSING;
        }
        return place >= 0 && trays.reaches(tray, place, 1) ? 0 : NO_PLACE;
    }

    private int statusOfTour(int visitor, int walls, int minutes) {
        if (!isVisitor(visitor) || !within(minutes, 1, 9) || !within(walls, 0, (1 << now.walls.count) - 1)
                || Integer.bitCount(walls) > Search.MOST_TOUR) {
            return WRONG_NUMBER;
        }
        if (now.isTurned(visitor) || now.toGo[visitor] > 0) {
            return CANNOT_BE;
        }
        return search.findTour(now, visitor, walls, minutes) ? 0 : NONE_SUCH;
    }

    private int statusOfSeen(int visitor, int tray, int n) {
        if (!isVisitor(visitor) || !Trays.isTray(tray) || !within(n, 0, 20)) {
            return WRONG_NUMBER;
        }
        if (trays.isMissing(tray)) {
            return TRAY_MISSING;
        }
        if (!trays.reaches(tray, 0, 2 * n)) {
            return NO_PLACE;
        }
        for (int i = 0; i < n; i++) {
            long minutes = trays.at(tray, 2 * i);
            long beast = trays.at(tray, 2 * i + 1);
            if (minutes < 0 || minutes > MOST_AHEAD || beast < 0 || beast > now.beasts.count) {
                return WRONG_IN_TRAY;
            }
        }
        return 0;
    }

    private void tellFraction(long above, long below) {
        long divisor = below;
        long rest = above;
        // A common divisor of two longs is found in fewer than a hundred steps.
        for (int i = 0; i < 200 && rest != 0; i++) {
            long next = divisor % rest;
            divisor = rest;
            rest = next;
        }
        if (divisor != 0) {
            fractionTop = above / divisor;
            fractionBottom = below / divisor;
        }
    }

    private static long power(int base, int exponent) {
        long result = 1;
        for (int i = 0; i < exponent; i++) {
            result *= base;
        }
        return result;
    }

    private static long choices(int n, int k) {
        long result = 1;
        for (int i = 0; i < k; i++) {
            result = result * (n - i) / (i + 1);
        }
        return result;
    }

    /** Four rows of numbers, laid once so that no call makes a new one. */
    private static final class Trays {
        static final int TRAYS = 4;
        static final int MOST_CELLS = 60;

        private final int[] sorts = {NONE, NONE, NONE, NONE};
        private final int[] sizes = new int[TRAYS];
        private final long[] cells = new long[TRAYS * MOST_CELLS];

        static boolean isTray(int tray) {
            return within(tray, 0, TRAYS - 1);
        }

        boolean isMissing(int tray) {
            return sorts[tray] == NONE;
        }

        int sortOf(int tray) {
            return sorts[tray];
        }

        /** Whether so many numbers stand in the tray from that place on; neither is below 0. */
        boolean reaches(int tray, int place, int many) {
            return place <= sizes[tray] && many <= sizes[tray] - place;
        }

        void lay(int tray, int sort, int many) {
            sorts[tray] = sort;
            sizes[tray] = many;
            for (int i = 0; i < many; i++) {
                cells[tray * MOST_CELLS + i] = 0;
            }
        }

        long at(int tray, int place) {
            return cells[tray * MOST_CELLS + place];
        }

        void put(int tray, int place, long value) {
            cells[tray * MOST_CELLS + place] = cut(value, sorts[tray]);
        }

        private static long cut(long value, int sort) {
            switch (sort) {
                case 0: return (byte) value;
                case 1: return (short) value;
                case 2: return (int) value;
                default: return value;
            }
        }

        void move(int from, int place, int to, int at, int many) {
            System.arraycopy(cells, from * MOST_CELLS + place, cells, to * MOST_CELLS + at, many);
        }
    }

    /** The beasts, and which may stand behind which. */
    private static final class Beasts {
        int count;
        final int[] weights = new int[MOST_BEASTS * MOST_BEASTS];

        void clear() {
            count = 0;
            Arrays.fill(weights, 0);
        }

        void copyOf(Beasts from) {
            count = from.count;
            System.arraycopy(from.weights, 0, weights, 0, weights.length);
        }

        /** Puts how many rows of n end with each beast into the first five places of the table. */
        void countRows(int n, int[] table) {
            for (int b = 0; b < count; b++) {
                table[b] = 1;
            }
            for (int i = 1; i < n; i++) {
                for (int b = 0; b < count; b++) {
                    int sum = 0;
                    for (int a = 0; a < count; a++) {
                        sum += weights[a * MOST_BEASTS + b] > 0 ? table[a] : 0;
                    }
                    table[MOST_BEASTS + b] = sum;
                }
                System.arraycopy(table, MOST_BEASTS, table, 0, MOST_BEASTS);
            }
        }

        /** 0 if there is no row; leaves in the table the greatest product of each shorter row by its first beast. */
        int greatestProduct(int n, int[] table) {
            int most = 0;
            for (int i = 0; i < n; i++) {
                most = 0;
                for (int b = 0; b < count; b++) {
                    int product = i == 0 ? 1 : 0;
                    for (int a = 0; a < count && i > 0; a++) {
                        product = Math.max(product, weights[b * MOST_BEASTS + a] * table[(i - 1) * MOST_BEASTS + a]);
                    }
                    table[i * MOST_BEASTS + b] = product;
                    most = Math.max(most, product);
                }
            }
            return most;
        }

        /** The k-th beast of the first row with the greatest product, from the table that greatestProduct() left. */
        int inBestRow(int n, int k, int[] table) {
            int last = NONE;
            for (int i = 0; i <= k && i < n; i++) {
                int most = 0;
                int pick = NONE;
                for (int b = 0; b < count; b++) {
                    int factor = last == NONE ? 1 : weights[last * MOST_BEASTS + b];
                    int product = factor * table[(n - 1 - i) * MOST_BEASTS + b];
                    if (product > most) {
                        most = product;
                        pick = b;
                    }
                }
                last = pick;
            }
            return last;
        }
    }

    /** The walls, what stands on them, and the ways between them. */
    private static final class Walls {
        int count;
        int ways;
        final int[] beast = new int[MOST_WALLS];
        final int[] pull = new int[MOST_WALLS];
        /** The shortest way that goes at once, 0 where there is none. */
        final int[] direct = new int[MOST_WALLS * MOST_WALLS];
        /** FAR, NONE where there is no way. */
        final int[] distance = new int[MOST_WALLS * MOST_WALLS];

        void clear() {
            count = 0;
            ways = 0;
            Arrays.fill(direct, 0);
        }

        void copyOf(Walls from) {
            count = from.count;
            ways = from.ways;
            System.arraycopy(from.beast, 0, beast, 0, beast.length);
            System.arraycopy(from.pull, 0, pull, 0, pull.length);
            System.arraycopy(from.direct, 0, direct, 0, direct.length);
            System.arraycopy(from.distance, 0, distance, 0, distance.length);
        }

        void add(int itsBeast, int itsPull) {
            beast[count] = itsBeast;
            pull[count] = itsPull;
            count++;
        }

        void join(int wall, int other, int minutes) {
            int there = wall * MOST_WALLS + other;
            if (direct[there] == 0 || minutes < direct[there]) {
                direct[there] = minutes;
                direct[other * MOST_WALLS + wall] = minutes;
            }
            ways++;
        }

        int bareOnes() {
            int set = 0;
            for (int w = 0; w < count; w++) {
                set |= beast[w] == NONE ? 1 << w : 0;
            }
            return set;
        }

        int nextTo(int wall) {
            int set = 0;
            for (int w = 0; w < count; w++) {
                set |= direct[wall * MOST_WALLS + w] > 0 ? 1 << w : 0;
            }
            return set;
        }

        void measureDistances() {
            for (int a = 0; a < count; a++) {
                for (int b = 0; b < count; b++) {
                    int there = a * MOST_WALLS + b;
                    distance[there] = a == b ? 0 : direct[there] > 0 ? direct[there] : NONE;
                }
            }
            for (int by = 0; by < count; by++) {
                for (int a = 0; a < count; a++) {
                    for (int b = 0; b < count; b++) {
                        shorten(a, b, by);
                    }
                }
            }
        }

        private void shorten(int a, int b, int by) {
            int first = distance[a * MOST_WALLS + by];
            int second = distance[by * MOST_WALLS + b];
            int there = a * MOST_WALLS + b;
            if (first != NONE && second != NONE && (distance[there] == NONE || first + second < distance[there])) {
                distance[there] = first + second;
            }
        }
    }

    /** The figures and how they lie; a set of them is a number, 1 for figure 0. */
    private static final class Figures {
        int count;
        final int[] beast = new int[MOST_FIGURES];
        final int[] style = new int[MOST_FIGURES];
        final int[] other = new int[MOST_FIGURES];
        final int[] over = new int[MOST_FIGURES];

        void clear() {
            count = 0;
        }

        void copyOf(Figures from) {
            count = from.count;
            System.arraycopy(from.beast, 0, beast, 0, beast.length);
            System.arraycopy(from.style, 0, style, 0, style.length);
            System.arraycopy(from.other, 0, other, 0, other.length);
            System.arraycopy(from.over, 0, over, 0, over.length);
        }

        void add(int itsBeast, int itsStyle, int itsOther) {
            beast[count] = itsBeast;
            style[count] = itsStyle;
            other[count] = itsOther;
            over[count] = 0;
            count++;
        }

        /** For each set the orders in which it can be painted ahead of all else; the whole set's are all. */
        int countOrders(int[] table) {
            int sets = 1 << count;
            table[0] = 1;
            for (int set = 1; set < sets; set++) {
                int sum = 0;
                for (int f = 0; f < count; f++) {
                    int rest = set & ~(1 << f);
                    if (rest != set && (over[f] & ~rest) == 0) {
                        sum += table[rest];
                    }
                }
                table[set] = sum;
            }
            return table[sets - 1];
        }

        /** The k-th figure of the first order, NONE if there is none or no order of all figures. */
        int inFirstOrder(int k) {
            int painted = 0;
            int wanted = NONE;
            for (int i = 0; i < count; i++) {
                int pick = NONE;
                for (int f = 0; f < count && pick == NONE; f++) {
                    if (!has(painted, f) && (over[f] & ~painted) == 0) {
                        pick = f;
                    }
                }
                if (pick == NONE) {
                    return NONE;
                }
                painted |= 1 << pick;
                wanted = i == k ? pick : wanted;
            }
            return wanted;
        }

        int allBelow(int figure) {
            int below = over[figure];
            for (int round = 0; round < count; round++) {
                for (int f = 0; f < count; f++) {
                    below |= has(below, f) ? over[f] : 0;
                }
            }
            return below;
        }

        private boolean isLikeAll(int figure, int set, int n) {
            for (int f = 0; f < count; f++) {
                if (has(set, f) && Math.abs(style[f] - style[figure]) + Math.abs(other[f] - other[figure]) > n) {
                    return false;
                }
            }
            return true;
        }

        /** Puts 1 into the table at each set of which any two are like each other, 0 at each other one. */
        private void findLikeSets(int n, int[] table) {
            table[0] = 1;
            for (int f = 0; f < count; f++) {
                for (int rest = 0; rest < 1 << f; rest++) {
                    table[1 << f | rest] = table[rest] == 1 && isLikeAll(f, rest, n) ? 1 : 0;
                }
            }
        }

        int fewestSets(int n, int[] table) {
            findLikeSets(n, table);
            int sets = 1 << count;
            table[sets] = 0;
            for (int set = 1; set < sets; set++) {
                int fewest = MOST_FIGURES;
                for (int part = 1; part <= set; part++) {
                    if ((part & ~set) == 0 && table[part] == 1) {
                        fewest = Math.min(fewest, 1 + table[sets + (set ^ part)]);
                    }
                }
                table[sets + set] = fewest;
            }
            return table[sets + sets - 1];
        }

        int greatestSet(int n, int[] table) {
            findLikeSets(n, table);
            int greatest = 0;
            for (int set = 1; set < 1 << count; set++) {
                if (table[set] == 1 && Integer.bitCount(set) > Integer.bitCount(greatest)) {
                    greatest = set;
                }
            }
            return greatest;
        }
    }

    /** All that a cave's text tells, and what becomes of it. */
    private static final class Cave {
        int lamp = 60;
        int odds = 4;
        int minutes;
        int visitors;
        final Beasts beasts = new Beasts();
        final Walls walls = new Walls();
        final Figures figures = new Figures();
        final int[] selves = new int[MOST_VISITORS];
        final int[] places = new int[MOST_VISITORS];
        final int[] toGo = new int[MOST_VISITORS];
        final int[] measures = new int[MOST_VISITORS * MOST_BEASTS];
        private int names;
        private final long[] nameCodes = new long[MOST_NAMES];
        private final int[] nameKinds = new int[MOST_NAMES];
        private final int[] nameNumbers = new int[MOST_NAMES];

        void clear() {
            lamp = 60;
            odds = 4;
            minutes = 0;
            visitors = 0;
            names = 0;
            beasts.clear();
            walls.clear();
            figures.clear();
        }

        void copyOf(Cave from) {
            lamp = from.lamp;
            odds = from.odds;
            minutes = from.minutes;
            visitors = from.visitors;
            beasts.copyOf(from.beasts);
            walls.copyOf(from.walls);
            figures.copyOf(from.figures);
            System.arraycopy(from.selves, 0, selves, 0, selves.length);
            System.arraycopy(from.places, 0, places, 0, places.length);
            System.arraycopy(from.toGo, 0, toGo, 0, toGo.length);
            System.arraycopy(from.measures, 0, measures, 0, measures.length);
            names = from.names;
            System.arraycopy(from.nameCodes, 0, nameCodes, 0, nameCodes.length);
            System.arraycopy(from.nameKinds, 0, nameKinds, 0, nameKinds.length);
            System.arraycopy(from.nameNumbers, 0, nameNumbers, 0, nameNumbers.length);
        }

        void addName(long code, int kind, int number) {
            if (names < MOST_NAMES) {
                nameCodes[names] = code;
                nameKinds[names] = kind;
                nameNumbers[names] = number;
                names++;
            }
        }

        boolean isTaken(long code) {
            for (int i = 0; i < names; i++) {
                if (nameCodes[i] == code) {
                    return true;
                }
            }
            return false;
        }

        /** The number of the thing of that kind and name, or NONE. */
        int named(long code, int kind) {
            for (int i = 0; i < names; i++) {
                if (nameCodes[i] == code && nameKinds[i] == kind) {
                    return nameNumbers[i];
                }
            }
            return NONE;
        }

        // Rows of measures: one for each of the five beasts that there can be, many rows in one array.
        // A beast that the cave has not keeps 0 there, so it never counts.

        static void copyRow(int[] from, int fromRow, int[] to, int toRow) {
            for (int b = 0; b < MOST_BEASTS; b++) {
                to[toRow + b] = from[fromRow + b];
            }
        }

        /** A minute of looking at a beast, or at none. */
        static void change(int[] rows, int row, int beast, int pull) {
            for (int b = 0; b < MOST_BEASTS; b++) {
                int measure = rows[row + b];
                rows[row + b] = b == beast ? Math.min(measure + pull, MOST_MEASURE) : Math.max(measure - 1, 0);
            }
        }

        static int greatest(int[] rows, int row) {
            int most = 0;
            for (int b = 0; b < MOST_BEASTS; b++) {
                most = Math.max(most, rows[row + b]);
            }
            return most;
        }

        static int foremost(int[] rows, int row) {
            int first = 0;
            for (int b = 1; b < MOST_BEASTS; b++) {
                if (rows[row + b] > rows[row + first]) {
                    first = b;
                }
            }
            return first;
        }

        void addVisitor(int self, int wall) {
            selves[visitors] = self;
            places[visitors] = wall;
            toGo[visitors] = 0;
            for (int b = 0; b < MOST_BEASTS; b++) {
                measures[visitors * MOST_BEASTS + b] = 0;
            }
            visitors++;
        }

        int greatestOf(int visitor) {
            return greatest(measures, visitor * MOST_BEASTS);
        }

        boolean isTurned(int visitor) {
            return greatest(measures, visitor * MOST_BEASTS) > selves[visitor];
        }

        int turnedOnes() {
            int set = 0;
            for (int v = 0; v < visitors; v++) {
                set |= isTurned(v) ? 1 << v : 0;
            }
            return set;
        }

        int goingOnes() {
            int set = 0;
            for (int v = 0; v < visitors; v++) {
                set |= toGo[v] > 0 ? 1 << v : 0;
            }
            return set;
        }

        /** How many became turned in it. */
        int passMinute() {
            int became = 0;
            for (int v = 0; v < visitors; v++) {
                boolean wasTurned = isTurned(v);
                boolean looks = toGo[v] == 0 && lamp > 0;
                change(measures, v * MOST_BEASTS, looks ? walls.beast[places[v]] : NONE, walls.pull[places[v]]);
                toGo[v] = Math.max(toGo[v] - 1, 0);
                became += !wasTurned && isTurned(v) ? 1 : 0;
            }
            lamp = Math.max(lamp - 1, 0);
            minutes++;
            return became;
        }

        /** Leads a visitor to a wall; false, and nothing done, if it can't be. */
        boolean goTo(int visitor, int wall) {
            int way = walls.direct[places[visitor] * MOST_WALLS + wall];
            if (way == 0 || toGo[visitor] > 0 || isTurned(visitor)) {
                return false;
            }
            places[visitor] = wall;
            toGo[visitor] = way;
            return true;
        }

        /** Wakes a visitor; false, and nothing done, if it can't be. */
        boolean rouse(int visitor) {
            if (greatestOf(visitor) == 0) {
                return false;
            }
            for (int b = 0; b < MOST_BEASTS; b++) {
                measures[visitor * MOST_BEASTS + b] /= 2;
            }
            return true;
        }

        /** Fills the lamp; false, and nothing done, if it would burn too long. */
        boolean addOil(int more) {
            if (lamp > MOST_LAMP - more) {
                return false;
            }
            lamp += more;
            return true;
        }
    }

    /** The tape, and the tokens of a text at its beginning, one at a time. */
    private static final class Text {
        // The words that are no names, by their numbers below; a blank behind each.
        private static final String RESERVED = "lamp odds beast wall of pulls way long visitor self at figure style over follows weight minute lead wake fill any when turned dark loop end stop ";
        static final int LAMP = 0;
        static final int ODDS = 1;
        static final int BEAST = 2;
        static final int WALL = 3;
        static final int OF = 4;
        static final int PULLS = 5;
        static final int WAY = 6;
        static final int LONG = 7;
        static final int VISITOR = 8;
        static final int SELF = 9;
        static final int AT = 10;
        static final int FIGURE = 11;
        static final int STYLE = 12;
        static final int OVER = 13;
        static final int FOLLOWS = 14;
        static final int WEIGHT = 15;
        static final int MINUTE = 16;
        static final int LEAD = 17;
        static final int WAKE = 18;
        static final int FILL = 19;
        static final int ANY = 20;
        static final int WHEN = 21;
        static final int TURNED = 22;
        static final int DARK = 23;
        static final int LOOP = 24;
        static final int END = 25;
        static final int STOP = 26;
        private static final int RESERVED_WORDS = 27;

        // The sorts of tokens.
        private static final int AT_END = 0;
        private static final int WORD = 1;
        private static final int NUMBER = 2;
        private static final int SIGN = 3;
        private static final int NO_TOKEN = 4;

        private static final int LONGEST_NAME = 8;
        private static final int LONGEST_NUMBER = 4;

        int size;
        /** Of the text begun latest: its fault, 0 without one, NONE ahead of any text. */
        int fault = NONE;
        int faultPlace = NONE;
        /** The number that needNumber() took latest. */
        int number;
        /** Of the token at which the text stands: which reserved word it is, NONE for all others. */
        int keyword = NONE;
        /** Of a word at which the text stands: its letters as a number, of another length or letter another one. */
        long code;
        /** Of the token at which the text stands: its sign. */
        int sign;
        private final byte[] tape = new byte[MOST_TAPE];
        private final long[] reservedCodes = new long[RESERVED_WORDS];
        private int end;
        private int next;
        private int place;
        private int sort;
        private int letters;
        private int value;

        Text() {
            int word = 0;
            long letterCode = 0;
            for (int i = 0; i < RESERVED.length() && word < RESERVED_WORDS; i++) {
                char c = RESERVED.charAt(i);
                if (c == ' ') {
                    reservedCodes[word] = letterCode;
                    letterCode = 0;
                    word++;
                } else {
                    letterCode = letterCode * 32 + (c - 'a' + 1);
                }
            }
        }

        /** Four bytes more, if there is room. */
        void append(int bytes) {
            for (int shift = 24; shift >= 0 && size < MOST_TAPE; shift -= 8) {
                tape[size] = (byte) (bytes >> shift);
                size++;
            }
        }

        /** Stands at the first token of so many bytes; the tape counts as empty from here on. */
        void begin(int length) {
            end = Math.min(length, size);
            size = 0;
            next = 0;
            fault = 0;
            faultPlace = NONE;
            advance();
        }

        boolean isAtEnd() {
            return sort == AT_END;
        }

        boolean isName() {
            return sort == WORD && keyword == NONE && letters <= LONGEST_NAME;
        }

        /** Tells a fault at the token at which the text stands; always false. */
        boolean fail(int kind) {
            fault = sort == NO_TOKEN ? 1 : kind;
            faultPlace = place;
            return false;
        }

        boolean needWord(int word) {
            if (keyword != word) {
                return fail(2);
            }
            advance();
            return true;
        }

        boolean needSign(char wanted) {
            if (sign != wanted) {
                return fail(2);
            }
            advance();
            return true;
        }

        boolean needNumber(int low, int high) {
            if (sort != NUMBER) {
                return fail(2);
            }
            if (value < low || value > high) {
                return fail(4);
            }
            number = value;
            advance();
            return true;
        }

        void advance() {
            while (next < end && (tape[next] == 10 || tape[next] == 32)) {
                next++;
            }
            place = next;
            keyword = NONE;
            sign = NONE;
            if (next >= end) {
                sort = AT_END;
            } else if (tape[next] >= 'a' && tape[next] <= 'z') {
                takeWord();
            } else if (tape[next] >= '0' && tape[next] <= '9') {
                takeNumber();
            } else {
                takeSign();
            }
        }

        private void takeWord() {
            sort = WORD;
            code = 0;
            letters = 0;
            while (next < end && tape[next] >= 'a' && tape[next] <= 'z') {
                code = code * 32 + (tape[next] - 'a' + 1);
                letters++;
                next++;
            }
            for (int i = 0; i < RESERVED_WORDS && letters <= LONGEST_NAME; i++) {
                if (reservedCodes[i] == code) {
                    keyword = i;
                }
            }
        }

        private void takeNumber() {
            int digits = 0;
            value = 0;
            while (next < end && tape[next] >= '0' && tape[next] <= '9') {
                value = digits < LONGEST_NUMBER ? value * 10 + (tape[next] - '0') : value;
                digits++;
                next++;
            }
            sort = digits <= LONGEST_NUMBER ? NUMBER : NO_TOKEN;
        }

        private void takeSign() {
            int c = tape[next];
            boolean known = c == ';' || c == '<' || c == '>' || c == '=';
            sort = known ? SIGN : NO_TOKEN;
            sign = known ? c : NONE;
            next++;
        }
    }

    /** Days as they were told: lines of steps, and of the ends of whens and loops. */
    private static final class Days {
        // A step that is no block takes at least four bytes, a block with its end eleven: no text has more lines.
        static final int MOST_LINES = 60;
        static final int MOST_STEPS = 30;
        static final int MOST_DEPTH = 3;

        boolean isTold;
        int steps;
        int lines;
        /** The word with which the line begins. */
        final int[] kinds = new int[MOST_LINES];
        /** Of a when: the word of its test, or the sign by which a self compares. */
        final int[] tests = new int[MOST_LINES];
        final int[] visitors = new int[MOST_LINES];
        /** A wall or a number. */
        final int[] numbers = new int[MOST_LINES];
        /** Of a when or loop: the line of its end; of an end: the line of its beginning. */
        final int[] partners = new int[MOST_LINES];

        void clear() {
            isTold = false;
            steps = 0;
            lines = 0;
        }

        void copyOf(Days from) {
            isTold = from.isTold;
            steps = from.steps;
            lines = from.lines;
            System.arraycopy(from.kinds, 0, kinds, 0, lines);
            System.arraycopy(from.tests, 0, tests, 0, lines);
            System.arraycopy(from.visitors, 0, visitors, 0, lines);
            System.arraycopy(from.numbers, 0, numbers, 0, lines);
            System.arraycopy(from.partners, 0, partners, 0, lines);
        }

        /** Which line it is, NONE if there is no room. */
        int add(int kind, int test, int visitor, int number) {
            if (lines >= MOST_LINES) {
                return NONE;
            }
            kinds[lines] = kind;
            tests[lines] = test;
            visitors[lines] = visitor;
            numbers[lines] = number;
            partners[lines] = NONE;
            lines++;
            steps += kind == Text.END ? 0 : 1;
            return lines - 1;
        }

        void pair(int beginning, int end) {
            if (within(beginning, 0, lines - 1) && within(end, 0, lines - 1)) {
                partners[beginning] = end;
                partners[end] = beginning;
            }
        }
    }

    /** Makes caves and days of texts. */
    private static final class Reader {
        private final Text text;
        private Cave cave;
        private Days days;
        private boolean lampTold;
        private boolean oddsTold;
        /** The number of the thing that knownName() took latest, by the word of its kind. */
        private final int[] found = new int[Text.FIGURE + 1];
        private int depth;
        private final int[] open = new int[Days.MOST_DEPTH];
        /** The test of the when that is being read. */
        private int test;

        Reader(Text itsText) {
            text = itsText;
        }

        /** False at the first fault, which the text keeps. */
        boolean takeCave(int length, Cave into) {
            cave = into;
            cave.clear();
            lampTold = false;
            oddsTold = false;
            text.begin(length);
            for (int i = 0; i <= length && !text.isAtEnd(); i++) {
                if (!takePart() || !text.needSign(';')) {
                    return false;
                }
            }
            cave.walls.measureDistances();
            return true;
        }

        private boolean takePart() {
            switch (text.keyword) {
                case Text.LAMP: return takeLamp();
                case Text.ODDS: return takeOdds();
                case Text.BEAST: return takeBeast();
                case Text.WALL: return takeWall();
                case Text.WAY: return takeWay();
                case Text.VISITOR: return takeVisitor();
                case Text.FIGURE: return takeFigure();
                case Text.OVER: return takeOver();
                case Text.FOLLOWS: return takeFollows();
                default: return text.fail(2);
            }
        }

        private boolean newName(int kind, int itsNumber) {
            if (!text.isName()) {
                return text.fail(2);
            }
            if (cave.isTaken(text.code)) {
                return text.fail(3);
            }
            cave.addName(text.code, kind, itsNumber);
            text.advance();
            return true;
        }

        /** A name of that kind told ahead, which is not that of the thing numbered unlike. */
        private boolean knownName(int kind, int unlike) {
            if (!text.isName()) {
                return text.fail(2);
            }
            int itsNumber = cave.named(text.code, kind);
            if (itsNumber == NONE) {
                return text.fail(3);
            }
            if (itsNumber == unlike) {
                return text.fail(5);
            }
            found[kind] = itsNumber;
            text.advance();
            return true;
        }

        private boolean takeLamp() {
            if (lampTold) {
                return text.fail(5);
            }
            lampTold = true;
            text.advance();
            if (!text.needNumber(0, 99)) {
                return false;
            }
            cave.lamp = text.number;
            return true;
        }

        private boolean takeOdds() {
            if (oddsTold) {
                return text.fail(5);
            }
            oddsTold = true;
            text.advance();
            if (!text.needNumber(0, MOST_ODDS)) {
                return false;
            }
            cave.odds = text.number;
            return true;
        }

        private boolean takeBeast() {
            if (cave.beasts.count >= MOST_BEASTS) {
                return text.fail(6);
            }
            text.advance();
            if (!newName(Text.BEAST, cave.beasts.count)) {
                return false;
            }
            cave.beasts.count++;
            return true;
        }

        private boolean takeWall() {
            if (cave.walls.count >= MOST_WALLS) {
                return text.fail(6);
            }
            text.advance();
            if (!newName(Text.WALL, cave.walls.count)) {
                return false;
            }
            if (text.keyword != Text.OF) {
                cave.walls.add(NONE, 0);
                return true;
            }
            text.advance();
            if (!knownName(Text.BEAST, NONE) || !text.needWord(Text.PULLS) || !text.needNumber(1, MOST_PULL)) {
                return false;
            }
            cave.walls.add(found[Text.BEAST], text.number);
            return true;
        }

        private boolean takeWay() {
            if (cave.walls.ways >= MOST_WAYS) {
                return text.fail(6);
            }
            text.advance();
            if (!knownName(Text.WALL, NONE)) {
                return false;
            }
            int first = found[Text.WALL];
            if (!knownName(Text.WALL, first) || !text.needWord(Text.LONG) || !text.needNumber(1, 9)) {
                return false;
            }
            cave.walls.join(first, found[Text.WALL], text.number);
            return true;
        }

        private boolean takeVisitor() {
            if (cave.visitors >= MOST_VISITORS) {
                return text.fail(6);
            }
            text.advance();
            if (!newName(Text.VISITOR, cave.visitors) || !text.needWord(Text.SELF) || !text.needNumber(1, MOST_SELF)) {
                return false;
            }
            int self = text.number;
            if (!text.needWord(Text.AT) || !knownName(Text.WALL, NONE)) {
                return false;
            }
            cave.addVisitor(self, found[Text.WALL]);
            return true;
        }

        private boolean takeFigure() {
            if (cave.figures.count >= MOST_FIGURES) {
                return text.fail(6);
            }
            text.advance();
            if (!newName(Text.FIGURE, cave.figures.count) || !text.needWord(Text.OF) || !knownName(Text.BEAST, NONE)
                    || !text.needWord(Text.STYLE) || !text.needNumber(0, MOST_STYLE)) {
                return false;
            }
            int style = text.number;
            if (!text.needNumber(0, MOST_STYLE)) {
                return false;
            }
            cave.figures.add(found[Text.BEAST], style, text.number);
            return true;
        }

        private boolean takeOver() {
            text.advance();
            if (!knownName(Text.FIGURE, NONE)) {
                return false;
            }
            int first = found[Text.FIGURE];
            if (!knownName(Text.FIGURE, first)) {
                return false;
            }
            cave.figures.over[first] |= 1 << found[Text.FIGURE];
            return true;
        }

        private boolean takeFollows() {
            text.advance();
            if (!knownName(Text.BEAST, NONE)) {
                return false;
            }
            int first = found[Text.BEAST];
            if (!knownName(Text.BEAST, NONE) || !text.needWord(Text.WEIGHT) || !text.needNumber(1, 9)) {
                return false;
            }
            cave.beasts.weights[first * MOST_BEASTS + found[Text.BEAST]] = text.number;
            return true;
        }

        /** False at the first fault, which the text keeps. */
        boolean takeDays(int length, Cave of, Days into) {
            cave = of;
            days = into;
            days.clear();
            depth = 0;
            text.begin(length);
            for (int i = 0; i <= length && !text.isAtEnd(); i++) {
                boolean taken = text.keyword == Text.END ? takeEnd() : takeStep();
                if (!taken || !text.needSign(';')) {
                    return false;
                }
            }
            if (depth > 0) {
                return text.fail(2);
            }
            days.isTold = true;
            return true;
        }

        private boolean takeEnd() {
            if (depth <= 0 || depth > open.length) {
                return text.fail(2);
            }
            depth--;
            days.pair(open[depth], days.add(Text.END, NONE, NONE, NONE));
            text.advance();
            return true;
        }

        private boolean takeStep() {
            int kind = text.keyword;
            if (!isStep(kind)) {
                return text.fail(2);
            }
            if (days.steps >= Days.MOST_STEPS) {
                return text.fail(6);
            }
            boolean isBlock = kind == Text.WHEN || kind == Text.LOOP;
            if (isBlock && depth >= open.length) {
                return text.fail(7);
            }
            text.advance();
            test = NONE;
            if (kind == Text.WHEN ? !takeTest() : !takeRest(kind)) {
                return false;
            }
            boolean namesWall = kind == Text.LEAD || test == Text.AT;
            int line = days.add(kind, test, found[Text.VISITOR], namesWall ? found[Text.WALL] : text.number);
            if (isBlock) {
                open[depth] = line;
                depth++;
            }
            return true;
        }

        private static boolean isStep(int kind) {
            switch (kind) {
                case Text.MINUTE:
                case Text.LEAD:
                case Text.WAKE:
                case Text.FILL:
                case Text.ANY:
                case Text.WHEN:
                case Text.LOOP:
                case Text.STOP:
                    return true;
                default:
                    return false;
            }
        }

        private boolean takeRest(int kind) {
            switch (kind) {
                case Text.MINUTE: return text.needNumber(1, 60);
                case Text.LEAD: return knownName(Text.VISITOR, NONE) && knownName(Text.WALL, NONE);
                case Text.WAKE: return knownName(Text.VISITOR, NONE);
                case Text.FILL: return text.needNumber(1, 99);
                case Text.LOOP: return text.needNumber(1, 99);
                default: return true;
            }
        }

        private boolean takeTest() {
            test = text.keyword;
            if (test != Text.TURNED && test != Text.AT && test != Text.DARK && test != Text.SELF) {
                return text.fail(2);
            }
            text.advance();
            if (test == Text.DARK) {
                return true;
            }
            if (!knownName(Text.VISITOR, NONE)) {
                return false;
            }
            if (test == Text.AT) {
                return knownName(Text.WALL, NONE);
            }
            if (test == Text.TURNED) {
                return true;
            }
            test = text.sign;
            if (test != '<' && test != '>' && test != '=') {
                return text.fail(2);
            }
            text.advance();
            return text.needNumber(0, 99);
        }
    }

    /** Days as they are lived in a cave. */
    private static final class Life {
        private static final int MOST_STEPS = 300;
        // Far above what 300 steps and the ends behind them, 99 times each, can come to.
        private static final int MOST_LINES = 1000000;

        int steps;
        int missed;
        int minutes;
        int led;
        int turned;
        int left;
        private Cave cave;
        private Days days;
        private int seed;
        private final int[] rounds = new int[Days.MOST_LINES];

        void run(Cave where, Days what, int firstSeed) {
            cave = where;
            days = what;
            seed = firstSeed;
            steps = 0;
            missed = 0;
            minutes = 0;
            led = 0;
            turned = 0;
            left = 0;
            int line = 0;
            for (int i = 0; i < MOST_LINES && line >= 0 && line < days.lines; i++) {
                if (days.kinds[line] == Text.END) {
                    line = behindEnd(line);
                } else if (steps >= MOST_STEPS) {
                    left = 1;
                    return;
                } else {
                    steps++;
                    line = behindStep(line);
                }
            }
        }

        private int behindEnd(int line) {
            int beginning = days.partners[line];
            if (beginning >= 0 && days.kinds[beginning] == Text.LOOP) {
                rounds[beginning]--;
                if (rounds[beginning] > 0) {
                    return beginning + 1;
                }
            }
            return line + 1;
        }

        private int behindStep(int line) {
            int number = days.numbers[line];
            boolean done = true;
            switch (days.kinds[line]) {
                case Text.STOP:
                    return days.lines;
                case Text.WHEN:
                    return holds(line) ? line + 1 : days.partners[line] + 1;
                case Text.LOOP:
                    rounds[line] = number;
                    break;
                case Text.MINUTE:
                    done = letPass(number);
                    break;
                case Text.WAKE:
                    done = isThere(days.visitors[line]) && cave.rouse(days.visitors[line]);
                    break;
                case Text.FILL:
                    done = cave.addOil(number);
                    break;
                default:
                    done = leadOne(line);
                    break;
            }
            missed += done ? 0 : 1;
            return line + 1;
        }

        private boolean isThere(int visitor) {
            return within(visitor, 0, cave.visitors - 1);
        }

        private boolean holds(int line) {
            int visitor = days.visitors[line];
            if (days.tests[line] == Text.DARK) {
                return cave.lamp == 0;
            }
            if (!isThere(visitor)) {
                return false;
            }
            switch (days.tests[line]) {
                case Text.TURNED: return cave.isTurned(visitor);
                case Text.AT: return cave.places[visitor] == days.numbers[line];
                case '<': return cave.greatestOf(visitor) < days.numbers[line];
                case '>': return cave.greatestOf(visitor) > days.numbers[line];
                default: return cave.greatestOf(visitor) == days.numbers[line];
            }
        }

        private boolean letPass(int many) {
            if (cave.minutes > LAST_MINUTE - many) {
                return false;
            }
            for (int i = 0; i < many; i++) {
                turned += cave.passMinute();
            }
            minutes += many;
            return true;
        }

        /** A lead, or an any. */
        private boolean leadOne(int line) {
            int visitor = days.visitors[line];
            int wall = days.numbers[line];
            if (days.kinds[line] == Text.ANY) {
                if (cave.visitors == 0) {
                    return false;
                }
                visitor = pick(cave.visitors);
                wall = pick(cave.walls.count);
            }
            if (!isThere(visitor) || !within(wall, 0, cave.walls.count - 1) || !cave.goTo(visitor, wall)) {
                return false;
            }
            led++;
            return true;
        }

        private int pick(int many) {
            seed = (seed * 3191 + 11423) % 65536;
            return many > 0 ? seed / 8 % many : NONE;
        }
    }

    /** What becomes of a visitor as only minutes go by. */
    private static final class Ahead {
        final int[] row = new int[MOST_BEASTS];
        /** The greatest measure in so many minutes, and the first beast of which it is. */
        final int[] most = new int[MOST_AHEAD + 1];
        final int[] first = new int[MOST_AHEAD + 1];

        /** Fills most and first up to so many minutes, and leaves in the row the measures then. */
        void watch(Cave cave, int visitor, int minutes) {
            int wall = cave.places[visitor];
            int lamp = cave.lamp;
            int toGo = cave.toGo[visitor];
            Cave.copyRow(cave.measures, visitor * MOST_BEASTS, row, 0);
            for (int t = 0; t <= minutes && t <= MOST_AHEAD; t++) {
                if (t > 0) {
                    boolean looks = toGo < t && lamp >= t;
                    Cave.change(row, 0, looks ? cave.walls.beast[wall] : NONE, cave.walls.pull[wall]);
                }
                most[t] = Cave.greatest(row, 0);
                first[t] = Cave.foremost(row, 0);
            }
        }

        /** How many minutes he could look at a wall of a beast. */
        int longestLook(Cave cave, int visitor, int wall) {
            if (cave.isTurned(visitor)) {
                return 0;
            }
            Cave.copyRow(cave.measures, visitor * MOST_BEASTS, row, 0);
            for (int t = 0; t <= MOST_MEASURE; t++) {
                Cave.change(row, 0, cave.walls.beast[wall], cave.walls.pull[wall]);
                if (Cave.greatest(row, 0) > cave.selves[visitor]) {
                    return t;
                }
            }
            return MOST_MEASURE;
        }

        private int whoWithSelf(Cave cave, int self, int minutes) {
            return most[minutes] > self ? first[minutes] : cave.beasts.count;
        }

        /** The set of selves that fit the first n twos of a tray, 2 for self 1. */
        long fittingSelves(Cave cave, int visitor, Trays trays, int tray, int n) {
            watch(cave, visitor, MOST_AHEAD);
            long selves = 0;
            for (int self = 1; self <= MOST_SELF; self++) {
                boolean fitting = true;
                for (int i = 0; i < n && fitting; i++) {
                    int minutes = (int) trays.at(tray, 2 * i);
                    fitting = within(minutes, 0, MOST_AHEAD)
                            && whoWithSelf(cave, self, minutes) == trays.at(tray, 2 * i + 1);
                }
                selves |= fitting ? 1L << self : 0L;
            }
            return selves;
        }

        /** The minutes by which the selves are parted the best, as fittingSelves() watched them. */
        int bestParting(long selves) {
            int best = 0;
            int fewest = MOST_SELF + 1;
            int all = Long.bitCount(selves);
            for (int t = 0; t <= 60; t++) {
                int turned = 0;
                for (int self = 1; self <= MOST_SELF; self++) {
                    turned += (selves >> self & 1) != 0 && most[t] > self ? 1 : 0;
                }
                int same = Math.max(turned, all - turned);
                if (same < fewest) {
                    fewest = same;
                    best = t;
                }
            }
            return best;
        }
    }

    /** Tours and games: all that can be is tried, one row of measures for each depth. */
    private static final class Search {
        static final int MOST_TOUR = 5;
        static final int MOST_TURNS = 4;

        int bestTime;
        final int[] bestOrder = new int[MOST_TOUR];
        int firstMove;
        private final int[] order = new int[MOST_TOUR];
        private final int[] rows = new int[(MOST_TOUR + 1) * MOST_BEASTS];
        private final int[] pulls = new int[MOST_WALLS];
        private Walls walls;
        private int self;
        private int lamp;
        private int stay;
        private int turns;

        private void start(Cave cave, int visitor) {
            walls = cave.walls;
            self = cave.selves[visitor];
            lamp = cave.lamp;
            Cave.copyRow(cave.measures, visitor * MOST_BEASTS, rows, 0);
        }

        /** Whether there is a tour; bestTime and bestOrder tell it. */
        boolean findTour(Cave cave, int visitor, int set, int minutes) {
            start(cave, visitor);
            stay = minutes;
            bestTime = NONE;
            goOn(0, cave.places[visitor], set, 0);
            return bestTime != NONE;
        }

        /** Orders are tried as they stand by numbers, so only a sooner one takes the place of one found ahead. */
        private void goOn(int depth, int at, int set, int time) {
            if (set == 0) {
                if (bestTime == NONE || time < bestTime) {
                    bestTime = time;
                    System.arraycopy(order, 0, bestOrder, 0, MOST_TOUR);
                }
                return;
            }
            if (depth >= MOST_TOUR) {
                return;
            }
            for (int w = 0; w < walls.count; w++) {
                int way = walls.distance[at * MOST_WALLS + w];
                if (has(set, w) && way != NONE && staysHimself(depth, way, w)) {
                    order[depth] = w;
                    goOn(depth + 1, w, set & ~(1 << w), time + way + stay);
                }
            }
        }

        private boolean staysHimself(int depth, int way, int wall) {
            int row = (depth + 1) * MOST_BEASTS;
            Cave.copyRow(rows, depth * MOST_BEASTS, rows, row);
            for (int t = 0; t < way; t++) {
                Cave.change(rows, row, NONE, 0);
            }
            for (int t = 0; t < stay; t++) {
                Cave.change(rows, row, walls.beast[wall], walls.pull[wall]);
                if (Cave.greatest(rows, row) > self) {
                    return false;
                }
            }
            return true;
        }

        /** What comes of it by best play; firstMove is the guide's first wall, NONE for nothing. */
        int playGame(Cave cave, int visitor, int manyTurns) {
            start(cave, visitor);
            turns = Math.min(manyTurns, MOST_TURNS);
            firstMove = NONE;
            System.arraycopy(walls.pull, 0, pulls, 0, MOST_WALLS);
            return valueOf(0, cave.places[visitor], cave.toGo[visitor]);
        }

        private int valueOf(int depth, int at, int toGo) {
            if (depth >= turns) {
                return self - Cave.greatest(rows, depth * MOST_BEASTS);
            }
            return depth % 2 == 0 ? bestOfGuide(depth, at, toGo) : bestOfBeast(depth, at, toGo);
        }

        private int bestOfGuide(int depth, int at, int toGo) {
            int best = NONE;
            int move = NONE;
            boolean hasMove = false;
            boolean canGo = toGo == 0 && Cave.greatest(rows, depth * MOST_BEASTS) <= self;
            for (int w = 0; w < walls.count && canGo; w++) {
                int way = walls.direct[at * MOST_WALLS + w];
                if (way > 0) {
                    int value = behindMinute(depth, w, way);
                    if (!hasMove || value > best) {
                        best = value;
                        move = w;
                        hasMove = true;
                    }
                }
            }
            int value = behindMinute(depth, at, toGo);
            if (!hasMove || value > best) {
                best = value;
                move = NONE;
            }
            if (depth == 0) {
                firstMove = move;
            }
            return best;
        }

        private int bestOfBeast(int depth, int at, int toGo) {
            int best = behindMinute(depth, at, toGo);
            for (int w = 0; w < walls.count; w++) {
                if (walls.beast[w] != NONE && pulls[w] < MOST_PULL) {
                    pulls[w]++;
                    best = Math.min(best, behindMinute(depth, at, toGo));
                    pulls[w]--;
                }
            }
            return best;
        }

        private int behindMinute(int depth, int at, int toGo) {
            int row = (depth + 1) * MOST_BEASTS;
            boolean looks = toGo == 0 && lamp > depth;
            Cave.copyRow(rows, depth * MOST_BEASTS, rows, row);
            Cave.change(rows, row, looks ? walls.beast[at] : NONE, pulls[at]);
            return valueOf(depth + 1, at, Math.max(toGo - 1, 0));
        }
    }
}
