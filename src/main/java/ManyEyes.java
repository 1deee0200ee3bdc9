import java.util.Arrays;

/** Eyes of many lenses on a grid, and flyers that are steered by what the lenses take in. */
public final class ManyEyes {
    public static final int NONE = -1;

    private static final int CELL = 16;
    private static final int MIDDLE = 8;
    private static final int SIDES = 64;
    private static final int LAST_SIDE = SIDES - 1;
    private static final int MOST_MARK = 255;
    private static final int MOST_WIDTH = 7;
    private static final int LAST_WORLD_TICK = 999;

    private static final int MOST_BODIES = 6;
    private static final int MOST_WAY = 2;
    private static final int MOST_LENSES = 16;
    private static final int MOST_PAIRS = 16;
    private static final int MOST_DELAY = 8;
    private static final int MOST_RULES = 8;
    private static final int MOST_READS = 6;
    private static final int MOST_TURNS = 20;
    private static final int MOST_TURN = 8;
    private static final int MOST_GO = 16;
    private static final int MOST_TICKS = 60;
    private static final int MOST_STARTS = 64;
    private static final int MOST_TAPE = 300;
    private static final int FED_BYTES = 20;
    private static final int LEAST_BITS = 4;
    private static final int MOST_BITS = 20;
    private static final int FULL_BOUND = 1000000;
    private static final int HEAD_STEP = 8;
    private static final int TICK_TAKE = 100;
    private static final int TICK_PAIR = 200;
    private static final int NO_TICK = -10000000;

    private static final int[] WAY_X = {
        16, 16, 16, 16, 16, 16, 16, 16, 16, 16, 16, 16, 16, 16, 16, 16,
        16, 14, 12, 10, 8, 6, 4, 2, 0, -2, -4, -6, -8, -10, -12, -14,
        -16, -16, -16, -16, -16, -16, -16, -16, -16, -16, -16, -16, -16, -16, -16, -16,
        -16, -14, -12, -10, -8, -6, -4, -2, 0, 2, 4, 6, 8, 10, 12, 14,
    };
    private static final int[] WAY_Y = {
        -16, -14, -12, -10, -8, -6, -4, -2, 0, 2, 4, 6, 8, 10, 12, 14,
        16, 16, 16, 16, 16, 16, 16, 16, 16, 16, 16, 16, 16, 16, 16, 16,
        16, 14, 12, 10, 8, 6, 4, 2, 0, -2, -4, -6, -8, -10, -12, -14,
        -16, -16, -16, -16, -16, -16, -16, -16, -16, -16, -16, -16, -16, -16, -16, -16,
    };

    private final State now;
    private final State saved;
    private final Sight sight;
    private final Flyer flyer;
    private final Parser parser;
    private final int[] tape;
    private final int[] firstTakes;
    private int tapeSize;
    private boolean textRead;

    public ManyEyes(int w, int h) {
        now = new State(w, h);
        saved = new State(w, h);
        sight = new Sight(now.world);
        flyer = new Flyer(now, sight);
        parser = new Parser();
        tape = new int[MOST_TAPE];
        firstTakes = new int[MOST_LENSES];
    }

    public boolean mark(int cell, int mark) {
        if (!now.world.isCell(cell) || !isWithin(mark, 0, MOST_MARK)) {
            return false;
        }
        now.world.own[cell] = mark;
        return true;
    }

    public int body(int cell, int wayX, int wayY, int mark) {
        World world = now.world;
        if (!world.isCell(cell) || !isWithin(mark, 1, MOST_MARK) || world.bodies >= MOST_BODIES) {
            return NONE;
        }
        if (!isWithin(wayX, -MOST_WAY, MOST_WAY) || !isWithin(wayY, -MOST_WAY, MOST_WAY)) {
            return NONE;
        }
        int number = world.bodies;
        world.bodyY[number] = world.rowOf(cell);
        world.bodyX[number] = cell - world.bodyY[number] * world.w;
        world.bodyWayX[number] = wayX;
        world.bodyWayY[number] = wayY;
        world.bodyMark[number] = mark;
        world.bodies = number + 1;
        return number;
    }

    public int markOf(int cell, int tick) {
        return now.world.isCell(cell) && isTick(tick) ? now.world.seenMark(cell, tick) : NONE;
    }

    public int lens(int side, int width) {
        Eye eye = now.eye;
        if (!isSide(side) || !isWithin(width, 0, MOST_WIDTH) || eye.lenses >= MOST_LENSES) {
            return NONE;
        }
        int number = eye.lenses;
        eye.lensSide[number] = side;
        eye.lensWidth[number] = width;
        eye.lenses = number + 1;
        return number;
    }

    public int pair(int a, int b, int delay) {
        Eye eye = now.eye;
        if (!eye.isLens(a) || !eye.isLens(b) || a == b) {
            return NONE;
        }
        if (!isWithin(delay, 1, MOST_DELAY) || eye.pairs >= MOST_PAIRS) {
            return NONE;
        }
        int number = eye.pairs;
        eye.pairA[number] = a;
        eye.pairB[number] = b;
        eye.pairDelay[number] = delay;
        eye.pairs = number + 1;
        return number;
    }

    public int ray(int x, int y, int side, int tick, boolean far) {
        if (!now.world.isPlace(x, y) || !isSide(side) || !isTick(tick)) {
            return NONE;
        }
        sight.look(x, y, tick);
        int met = sight.trace(side);
        return far ? met >> Sight.MARK_BITS : met & MOST_MARK;
    }

    public int take(int lens, int x, int y, int head, int tick) {
        Eye eye = now.eye;
        if (!eye.isLens(lens) || !isStanding(x, y, head) || !isTick(tick)) {
            return NONE;
        }
        sight.look(x, y, tick);
        return sight.weigh(eye.lensSide[lens], eye.lensWidth[lens], head);
    }

    public int covered(int side) {
        if (isSide(side)) {
            return now.eye.lensesTo(side);
        }
        return side == NONE ? now.eye.sidesUnseen() : NONE;
    }

    public int ends(int side, int x, int y, int head, boolean high) {
        if (!isSide(side) || !isStanding(x, y, head)) {
            return NONE;
        }
        sight.look(x, y, 0);
        Eye eye = now.eye;
        int least = 0;
        int greatest = MOST_MARK;
        for (int i = 0; i < eye.lenses; i++) {
            int weight = eye.weightOf(i, side);
            if (weight > 0) {
                int all = Eye.allWeights(eye.lensWidth[i]);
                int taken = sight.weigh(eye.lensSide[i], eye.lensWidth[i], head);
                least = Math.max(least, ceilDiv(taken * all - MOST_MARK * (all - weight), weight));
                greatest = Math.min(greatest, ((taken + 1) * all - 1) / weight);
            }
        }
        return high ? greatest : least;
    }

    public int width(int one, int other, int x, int y, int head) {
        if (!isSide(one) || !isSide(other) || !isStanding(x, y, head)) {
            return NONE;
        }
        sight.look(x, y, 0);
        int best = NONE;
        int most = NONE;
        for (int width = 0; width <= MOST_WIDTH; width++) {
            int gap = Math.abs(sight.weigh(one, width, head) - sight.weigh(other, width, head));
            if (gap > most) {
                most = gap;
                best = width;
            }
        }
        return best;
    }

    public int same(int body, int moveX, int moveY, int x, int y, int head) {
        World world = now.world;
        if (!world.isBody(body) || !isStanding(x, y, head)) {
            return NONE;
        }
        int fromX = world.bodyX[body];
        int fromY = world.bodyY[body];
        if (!isWithin(moveX, -fromX, world.w - 1 - fromX) || !isWithin(moveY, -fromY, world.h - 1 - fromY)) {
            return NONE;
        }
        sight.look(x, y, 0);
        fillTakes(firstTakes, head);
        world.bodyX[body] = fromX + moveX;
        world.bodyY[body] = fromY + moveY;
        sight.look(x, y, 0);
        boolean untold = hasTakes(firstTakes, head);
        world.bodyX[body] = fromX;
        world.bodyY[body] = fromY;
        return untold ? 1 : 0;
    }

    public int feed(int a, int b, int c, int d, int e) {
        if (tapeSize > MOST_TAPE - FED_BYTES) {
            return NONE;
        }
        putBytes(a);
        putBytes(b);
        putBytes(c);
        putBytes(d);
        putBytes(e);
        return tapeSize;
    }

    public int end(int n) {
        if (!isWithin(n, 0, tapeSize)) {
            return NONE;
        }
        tapeSize = n;
        return n;
    }

    public int rule() {
        if (now.rules >= MOST_RULES) {
            return NONE;
        }
        parser.parse(tape, tapeSize);
        textRead = true;
        tapeSize = 0;
        if (parser.fault != 0) {
            return NONE;
        }
        int number = now.rules;
        now.codes[number] = parser.copyCode();
        now.rules = number + 1;
        return number;
    }

    public int fault(int what) {
        if (!textRead) {
            return NONE;
        }
        switch (what) {
            case 0:
                return parser.fault;
            case 1:
                return parser.place;
            default:
                return NONE;
        }
    }

    public int fly(int rule, int x, int y, int head, int n, int bits) {
        if (!now.isRule(rule) || !isStanding(x, y, head) || !isWithin(n, 1, MOST_TICKS)) {
            return NONE;
        }
        if (bits != 0 && !isWithin(bits, LEAST_BITS, MOST_BITS) || !now.world.isFree(x, y, 0)) {
            return NONE;
        }
        flyer.bindTo(bits == 0 ? FULL_BOUND : (1 << (bits - 1)) - 1);
        flyer.begin(now.flight, x, y, head);
        flyer.goOn(now.flight, now.codes[rule], n);
        return now.flight.count;
    }

    public int flown(int what) {
        Flight flight = now.flight;
        if (!flight.begun) {
            return NONE;
        }
        switch (what) {
            case 0:
                return flight.x;
            case 1:
                return flight.y;
            case 2:
                return flight.head;
            case 3:
                return flight.hit ? 1 : 0;
            case 4:
                return flight.rested ? 1 : 0;
            case 5:
                return flight.over;
            default:
                return NONE;
        }
    }

    public int tick(int tick, int what) {
        Flight flight = now.flight;
        if (!isWithin(tick, 0, flight.count - 1)) {
            return NO_TICK;
        }
        if (isWithin(what, 0, Flight.ROW - 1)) {
            return flight.noted(tick, what);
        }
        if (isWithin(what, TICK_TAKE, TICK_TAKE + flight.lenses - 1)) {
            return flight.takenBy(what - TICK_TAKE, tick);
        }
        if (isWithin(what, TICK_PAIR, TICK_PAIR + flight.pairs - 1)) {
            return flight.comparedBy(now.eye, what - TICK_PAIR, tick);
        }
        return NO_TICK;
    }

    public int safe(int rule, int fromX, int toX, int y, int fromHead, int toHead, int n, int what) {
        if (!now.isRule(rule) || !isWithin(n, 1, MOST_TICKS) || !isWithin(what, 0, 1)) {
            return NONE;
        }
        if (!isStanding(fromX, y, fromHead) || !isStanding(toX, y, toHead) || fromX > toX || fromHead > toHead) {
            return NONE;
        }
        int heads = toHead - fromHead + 1;
        int starts = ((toX - fromX) / CELL + 1) * heads;
        if (starts > MOST_STARTS) {
            return NONE;
        }
        flyer.bindTo(FULL_BOUND);
        for (int x = fromX; x <= toX; x += CELL) {
            for (int head = fromHead; head <= toHead; head++) {
                if (now.world.isFree(x, y, 0) && flyer.hitsFrom(rule, x, y, head, n)) {
                    return what == 0 ? x : head;
                }
            }
        }
        return NONE;
    }

    public int read(int x, int y, int head) {
        Reads reads = now.reads;
        if (!isStanding(x, y, head) || reads.count >= MOST_READS) {
            return NONE;
        }
        int number = reads.count;
        reads.x[number] = x;
        reads.y[number] = y;
        reads.head[number] = head;
        reads.size[number] = 0;
        reads.count = number + 1;
        return number;
    }

    public int turned(int flight, int turn) {
        Reads reads = now.reads;
        if (!isWithin(flight, 0, reads.count - 1) || !isWithin(turn, -MOST_TURN, MOST_TURN)) {
            return NONE;
        }
        int size = reads.size[flight];
        if (size >= MOST_TURNS) {
            return NONE;
        }
        reads.turns[flight * MOST_TURNS + size] = turn;
        reads.size[flight] = size + 1;
        return size + 1;
    }

    public int kept(int rule) {
        flyer.bindTo(FULL_BOUND);
        if (now.isRule(rule)) {
            return flyer.keepsAll(rule) ? 1 : 0;
        }
        return rule == NONE ? Integer.bitCount(flyer.keptRules()) : NONE;
    }

    public int parts(int y, int what) {
        World world = now.world;
        if (!isWithin(y, 0, world.h - 1) || !isWithin(what, 0, 2)) {
            return NONE;
        }
        flyer.bindTo(FULL_BOUND);
        int rules = flyer.keptRules();
        int most = 1;
        int bestX = NONE;
        int bestHead = NONE;
        int middleY = y * CELL + MIDDLE;
        for (int x = MIDDLE; x < world.w * CELL; x += CELL) {
            for (int head = 0; head < SIDES && world.isFree(x, middleY, 0); head += HEAD_STEP) {
                int unlike = flyer.unlikeTurns(rules, x, middleY, head);
                if (unlike > most) {
                    most = unlike;
                    bestX = x;
                    bestHead = head;
                }
            }
        }
        if (bestX == NONE || what == 0) {
            return bestX;
        }
        return what == 1 ? bestHead : most;
    }

    public int image() {
        saved.copyFrom(now);
        return now.rules;
    }

    public int back() {
        now.copyFrom(saved);
        return now.rules;
    }

    public int about(int what) {
        switch (what) {
            case 0:
                return now.world.w;
            case 1:
                return now.world.h;
            case 2:
                return now.world.bodies;
            case 3:
                return now.eye.lenses;
            case 4:
                return now.eye.pairs;
            case 5:
                return now.rules;
            case 6:
                return now.reads.count;
            case 7:
                return tapeSize;
            case 8:
                return now.world.countOwnMarks();
            default:
                return NONE;
        }
    }

    private void putBytes(int four) {
        for (int shift = 24; shift >= 0 && tapeSize < tape.length; shift -= 8) {
            tape[tapeSize] = (four >>> shift) & 255;
            tapeSize++;
        }
    }

    private void fillTakes(int[] takes, int head) {
        Eye eye = now.eye;
        for (int i = 0; i < eye.lenses && i < takes.length; i++) {
            takes[i] = sight.weigh(eye.lensSide[i], eye.lensWidth[i], head);
        }
    }

    private boolean hasTakes(int[] takes, int head) {
        Eye eye = now.eye;
        for (int i = 0; i < eye.lenses && i < takes.length; i++) {
            if (takes[i] != sight.weigh(eye.lensSide[i], eye.lensWidth[i], head)) {
                return false;
            }
        }
        return true;
    }

    private boolean isStanding(int x, int y, int head) {
        return now.world.isPlace(x, y) && isSide(head);
    }

    private static boolean isWithin(int value, int least, int most) {
        return value >= least && value <= most;
    }

    private static boolean isSide(int side) {
        return isWithin(side, 0, LAST_SIDE);
    }

    private static boolean isTick(int tick) {
        return isWithin(tick, 0, LAST_WORLD_TICK);
    }

    private static int ceilDiv(int value, int divisor) {
        return divisor > 0 ? -Math.floorDiv(-value, divisor) : 0;
    }

    private static void copyRow(int[] from, int[] to) {
        System.arraycopy(from, 0, to, 0, Math.min(from.length, to.length));
    }

    /** All that an image holds. */
    private static final class State {
        final World world;
        final Eye eye;
        final Reads reads;
        final Flight flight;
        final int[][] codes;
        int rules;

        State(int w, int h) {
            world = new World(w, h);
            eye = new Eye();
            reads = new Reads();
            flight = new Flight();
            codes = new int[MOST_RULES][0];
        }

        boolean isRule(int rule) {
            return isWithin(rule, 0, rules - 1);
        }

        /** The rows of code never change once made, so both states may share them. */
        void copyFrom(State other) {
            world.copyFrom(other.world);
            eye.copyFrom(other.eye);
            reads.copyFrom(other.reads);
            flight.copyFrom(other.flight);
            rules = other.rules;
            for (int i = 0; i < MOST_RULES; i++) {
                codes[i] = other.codes[i];
            }
        }
    }

    private static final class World {
        private static final int LEAST_SIZE = 4;
        private static final int MOST_SIZE = 24;

        final int w;
        final int h;
        final int[] own;
        final int[] bodyX;
        final int[] bodyY;
        final int[] bodyWayX;
        final int[] bodyWayY;
        final int[] bodyMark;
        int bodies;

        World(int w, int h) {
            this.w = Math.max(LEAST_SIZE, Math.min(MOST_SIZE, w));
            this.h = Math.max(LEAST_SIZE, Math.min(MOST_SIZE, h));
            own = new int[this.w * this.h];
            bodyX = new int[MOST_BODIES];
            bodyY = new int[MOST_BODIES];
            bodyWayX = new int[MOST_BODIES];
            bodyWayY = new int[MOST_BODIES];
            bodyMark = new int[MOST_BODIES];
        }

        boolean isCell(int cell) {
            return isWithin(cell, 0, own.length - 1);
        }

        int rowOf(int cell) {
            return w > 0 ? cell / w : 0;
        }

        boolean isBody(int number) {
            return isWithin(number, 0, bodies - 1);
        }

        boolean isPlace(int x, int y) {
            return isWithin(x, 0, w * CELL - 1) && isWithin(y, 0, h * CELL - 1);
        }

        boolean isFree(int x, int y, int tick) {
            return isPlace(x, y) && seenMark(y / CELL * w + x / CELL, tick) == 0;
        }

        int bodyCell(int number, int tick) {
            int x = bodyX[number] + tick * bodyWayX[number];
            int y = bodyY[number] + tick * bodyWayY[number];
            return x >= 0 && x < w && y >= 0 && y < h ? y * w + x : NONE;
        }

        int seenMark(int cell, int tick) {
            for (int i = 0; i < bodies; i++) {
                if (bodyCell(i, tick) == cell) {
                    return bodyMark[i];
                }
            }
            return isCell(cell) ? own[cell] : 0;
        }

        int countOwnMarks() {
            int marked = 0;
            for (int cell = 0; cell < own.length; cell++) {
                if (own[cell] != 0) {
                    marked++;
                }
            }
            return marked;
        }

        void copyFrom(World other) {
            copyRow(other.own, own);
            copyRow(other.bodyX, bodyX);
            copyRow(other.bodyY, bodyY);
            copyRow(other.bodyWayX, bodyWayX);
            copyRow(other.bodyWayY, bodyWayY);
            copyRow(other.bodyMark, bodyMark);
            bodies = other.bodies;
        }
    }

    private static final class Eye {
        final int[] lensSide = new int[MOST_LENSES];
        final int[] lensWidth = new int[MOST_LENSES];
        final int[] pairA = new int[MOST_PAIRS];
        final int[] pairB = new int[MOST_PAIRS];
        final int[] pairDelay = new int[MOST_PAIRS];
        int lenses;
        int pairs;

        static int allWeights(int width) {
            return (width + 1) * (width + 1);
        }

        boolean isLens(int number) {
            return isWithin(number, 0, lenses - 1);
        }

        /** 0 if the lens takes no ray to the side. */
        int weightOf(int number, int side) {
            int apart = (side - lensSide[number]) & LAST_SIDE;
            return Math.max(0, lensWidth[number] + 1 - Math.min(apart, SIDES - apart));
        }

        int lensesTo(int side) {
            int found = 0;
            for (int i = 0; i < lenses; i++) {
                if (weightOf(i, side) > 0) {
                    found++;
                }
            }
            return found;
        }

        int sidesUnseen() {
            int unseen = 0;
            for (int side = 0; side < SIDES; side++) {
                if (lensesTo(side) == 0) {
                    unseen++;
                }
            }
            return unseen;
        }

        void copyFrom(Eye other) {
            copyRow(other.lensSide, lensSide);
            copyRow(other.lensWidth, lensWidth);
            copyRow(other.pairA, pairA);
            copyRow(other.pairB, pairB);
            copyRow(other.pairDelay, pairDelay);
            lenses = other.lenses;
            pairs = other.pairs;
        }
    }

    private static final class Reads {
        final int[] x = new int[MOST_READS];
        final int[] y = new int[MOST_READS];
        final int[] head = new int[MOST_READS];
        final int[] size = new int[MOST_READS];
        final int[] turns = new int[MOST_READS * MOST_TURNS];
        int count;

        void copyFrom(Reads other) {
            copyRow(other.x, x);
            copyRow(other.y, y);
            copyRow(other.head, head);
            copyRow(other.size, size);
            copyRow(other.turns, turns);
            count = other.count;
        }
    }

    private static final class Flight {
        static final int ROW = 5;

        final int[] rows = new int[MOST_TICKS * ROW];
        final int[] takes = new int[MOST_TICKS * MOST_LENSES];
        boolean begun;
        boolean hit;
        boolean rested;
        int count;
        int over;
        int x;
        int y;
        int head;
        int lenses;
        int pairs;

        void note(int turn, int go) {
            int from = count * ROW;
            if (from + ROW <= rows.length) {
                rows[from] = turn;
                rows[from + 1] = go;
                rows[from + 2] = x;
                rows[from + 3] = y;
                rows[from + 4] = head;
            }
        }

        int noted(int tick, int what) {
            int at = tick * ROW + what;
            return at >= 0 && at < rows.length ? rows[at] : 0;
        }

        int takenBy(int lens, int tick) {
            int at = tick * MOST_LENSES + lens;
            return lens >= 0 && lens < lenses && at >= 0 && at < takes.length ? takes[at] : 0;
        }

        /** Lenses and pairs only grow in number, so those of the flight still stand in the eye. */
        int comparedBy(Eye eye, int pair, int tick) {
            if (!isWithin(pair, 0, pairs - 1) || tick < eye.pairDelay[pair]) {
                return 0;
            }
            int past = tick - eye.pairDelay[pair];
            int a = eye.pairA[pair];
            int b = eye.pairB[pair];
            return takenBy(a, past) * takenBy(b, tick) - takenBy(a, tick) * takenBy(b, past);
        }

        void copyFrom(Flight other) {
            copyRow(other.rows, rows);
            copyRow(other.takes, takes);
            begun = other.begun;
            hit = other.hit;
            rested = other.rested;
            count = other.count;
            over = other.over;
            x = other.x;
            y = other.y;
            head = other.head;
            lenses = other.lenses;
            pairs = other.pairs;
        }
    }

    /** What is seen from one place on one tick; each ray is traced once at most. */
    private static final class Sight {
        static final int MARK_BITS = 8;
        private static final int LAST_STEP = 40;
        private static final int MET_NOTHING = (LAST_STEP + 1) << MARK_BITS;
        private static final int NOT_TRACED = -1;

        private final World world;
        private final int[] view;
        private final int[] rays;
        private int x;
        private int y;

        Sight(World world) {
            this.world = world;
            view = new int[world.own.length];
            rays = new int[SIDES];
        }

        void look(int fromX, int fromY, int tick) {
            x = fromX;
            y = fromY;
            System.arraycopy(world.own, 0, view, 0, view.length);
            for (int i = world.bodies - 1; i >= 0; i--) {
                int cell = world.bodyCell(i, tick);
                if (cell >= 0 && cell < view.length) {
                    view[cell] = world.bodyMark[i];
                }
            }
            Arrays.fill(rays, NOT_TRACED);
        }

        /** The far above MARK_BITS, the mark within them. */
        int trace(int side) {
            if (side < 0 || side > LAST_SIDE) {
                return MET_NOTHING;
            }
            int endX = world.w * CELL;
            int endY = world.h * CELL;
            int atX = x;
            int atY = y;
            for (int k = 1; k <= LAST_STEP; k++) {
                atX += WAY_X[side];
                atY += WAY_Y[side];
                if (atX < 0 || atX >= endX || atY < 0 || atY >= endY) {
                    return MET_NOTHING;
                }
                int met = view[atY / CELL * world.w + atX / CELL];
                if (met != 0) {
                    return (k << MARK_BITS) + met;
                }
            }
            return MET_NOTHING;
        }

        int weigh(int side, int width, int head) {
            int sum = 0;
            for (int i = -width; i <= width; i++) {
                int to = (head + side + i) & LAST_SIDE;
                if (rays[to] == NOT_TRACED) {
                    rays[to] = trace(to) & MOST_MARK;
                }
                sum += rays[to] * (width + 1 - Math.abs(i));
            }
            int all = Eye.allWeights(width);
            return all > 0 ? sum / all : 0;
        }
    }

    private static final class Flyer {
        private final State state;
        private final Sight sight;
        private final Runner runner;
        private final Flight trial;

        Flyer(State state, Sight sight) {
            this.state = state;
            this.sight = sight;
            runner = new Runner(state.eye);
            trial = new Flight();
        }

        void bindTo(int bound) {
            runner.bound = bound;
        }

        void begin(Flight flight, int x, int y, int head) {
            flight.begun = true;
            flight.hit = false;
            flight.rested = false;
            flight.count = 0;
            flight.over = 0;
            flight.x = x;
            flight.y = y;
            flight.head = head;
            flight.lenses = state.eye.lenses;
            flight.pairs = state.eye.pairs;
        }

        void goOn(Flight flight, int[] code, int n) {
            for (int t = 0; t < n && !flight.hit && !flight.rested; t++) {
                step(flight, code);
            }
        }

        boolean hitsFrom(int rule, int x, int y, int head, int n) {
            if (!state.isRule(rule)) {
                return false;
            }
            begin(trial, x, y, head);
            goOn(trial, state.codes[rule], n);
            return trial.hit;
        }

        /** A bit for each rule. */
        int keptRules() {
            int rules = 0;
            for (int i = 0; i < state.rules; i++) {
                if (keepsAll(i)) {
                    rules |= 1 << i;
                }
            }
            return rules;
        }

        boolean keepsAll(int rule) {
            Reads reads = state.reads;
            boolean keeps = state.isRule(rule);
            for (int i = 0; keeps && i < reads.count; i++) {
                keeps = state.world.isFree(reads.x[i], reads.y[i], 0);
                begin(trial, reads.x[i], reads.y[i], reads.head[i]);
                for (int t = 0; keeps && t < reads.size[i]; t++) {
                    keeps = !trial.hit && step(trial, state.codes[rule])
                        && trial.noted(t, 0) == reads.turns[i * MOST_TURNS + t];
                }
            }
            return keeps;
        }

        int unlikeTurns(int rules, int x, int y, int head) {
            begin(trial, x, y, head);
            sense(trial);
            int turns = 0;
            for (int i = 0; i < state.rules; i++) {
                if ((rules >> i & 1) != 0) {
                    runner.run(state.codes[i], trial);
                    turns |= 1 << (MOST_TURN + (runner.rests ? 0 : runner.turn));
                }
            }
            return Integer.bitCount(turns);
        }

        /** Whether it turned or went on this tick. */
        private boolean step(Flight flight, int[] code) {
            if (flight.count >= MOST_TICKS) {
                return false;
            }
            sense(flight);
            runner.run(code, flight);
            flight.over += runner.over;
            if (runner.rests) {
                flight.rested = true;
                return false;
            }
            flight.note(runner.turn, runner.go);
            flight.count++;
            flight.head = (flight.head + runner.turn) & LAST_SIDE;
            flight.x += Math.floorDiv(runner.go * WAY_X[flight.head], CELL);
            flight.y += Math.floorDiv(runner.go * WAY_Y[flight.head], CELL);
            flight.hit = !state.world.isFree(flight.x, flight.y, flight.count);
            return true;
        }

        private void sense(Flight flight) {
            Eye eye = state.eye;
            int from = flight.count * MOST_LENSES;
            sight.look(flight.x, flight.y, flight.count);
            for (int i = 0; i < eye.lenses && from + i < flight.takes.length; i++) {
                flight.takes[from + i] = sight.weigh(eye.lensSide[i], eye.lensWidth[i], flight.head);
            }
        }
    }

    /** Code is a row of an operation each, its operand above OPERATION_BITS, in the order of a stack. */
    private static final class Code {
        static final int OPERATION_BITS = 5;
        static final int OPERATION_MASK = (1 << OPERATION_BITS) - 1;

        static final int NUMBER = 0;
        static final int LETTER = 1;
        static final int LENS = 2;
        static final int PAIR = 3;
        static final int TICK = 4;
        static final int NEGATE = 5;
        static final int NOT = 6;
        static final int ADD = 7;
        static final int SUBTRACT = 8;
        static final int MULTIPLY = 9;
        static final int DIVIDE = 10;
        static final int MIN = 11;
        static final int MAX = 12;
        static final int LESS = 13;
        static final int LESS_OR_LIKE = 14;
        static final int MORE = 15;
        static final int MORE_OR_LIKE = 16;
        static final int LIKE = 17;
        static final int UNLIKE = 18;
        static final int AND = 19;
        static final int OR = 20;
        static final int LET = 21;
        static final int TURN = 22;
        static final int GO = 23;
        static final int REST = 24;
    }

    /** Runs the code of a rule for one tick. */
    private static final class Runner {
        private static final int STACK = 64;
        private static final int LETTERS = 8;

        private final Eye eye;
        private final int[] stack;
        private final int[] letters;
        private int top;
        int bound;
        int over;
        int turn;
        int go;
        boolean rests;

        Runner(Eye eye) {
            this.eye = eye;
            stack = new int[STACK];
            letters = new int[LETTERS];
            bound = FULL_BOUND;
        }

        void run(int[] code, Flight flight) {
            top = 0;
            over = 0;
            turn = 0;
            go = 0;
            rests = false;
            for (int i = 0; i < code.length; i++) {
                int operation = code[i] & Code.OPERATION_MASK;
                int operand = code[i] >> Code.OPERATION_BITS;
                if (operation <= Code.TICK) {
                    push(brought(operation, operand, flight));
                } else if (operation <= Code.NOT) {
                    int value = pop();
                    push(operation == Code.NEGATE ? -(long) value : 1 - value);
                } else if (operation <= Code.OR) {
                    int right = pop();
                    push(joined(operation, pop(), right));
                } else {
                    finish(operation, operand, pop());
                }
            }
        }

        private void push(long value) {
            if (top < stack.length) {
                stack[top] = bounded(value);
                top++;
            }
        }

        private int bounded(long value) {
            if (value > bound) {
                over++;
                return bound;
            }
            if (value < -bound) {
                over++;
                return -bound;
            }
            return (int) value;
        }

        private int pop() {
            if (top <= 0) {
                return 0;
            }
            top--;
            return stack[top];
        }

        private int brought(int operation, int operand, Flight flight) {
            switch (operation) {
                case Code.NUMBER:
                    return operand;
                case Code.LETTER:
                    return isWithin(operand, 0, LETTERS - 1) ? letters[operand] : 0;
                case Code.LENS:
                    return flight.takenBy(operand, flight.count);
                case Code.PAIR:
                    return flight.comparedBy(eye, operand, flight.count);
                default:
                    return flight.count;
            }
        }

        private static long joined(int operation, int left, int right) {
            switch (operation) {
                case Code.ADD:
                    return (long) left + right;
                case Code.SUBTRACT:
                    return (long) left - right;
                case Code.MULTIPLY:
                    return (long) left * right;
                case Code.DIVIDE:
                    return right == 0 ? 0 : left / right;
                case Code.MIN:
                    return Math.min(left, right);
                case Code.MAX:
                    return Math.max(left, right);
                default:
                    return isSo(operation, left, right) ? 1 : 0;
            }
        }

        private static boolean isSo(int operation, int left, int right) {
            switch (operation) {
                case Code.LESS:
                    return left < right;
                case Code.LESS_OR_LIKE:
                    return left <= right;
                case Code.MORE:
                    return left > right;
                case Code.MORE_OR_LIKE:
                    return left >= right;
                case Code.LIKE:
                    return left == right;
                case Code.UNLIKE:
                    return left != right;
                case Code.AND:
                    return left != 0 && right != 0;
                default:
                    return left != 0 || right != 0;
            }
        }

        private void finish(int operation, int operand, int value) {
            switch (operation) {
                case Code.LET:
                    if (isWithin(operand, 0, LETTERS - 1)) {
                        letters[operand] = value;
                    }
                    break;
                case Code.TURN:
                    turn = Math.max(-MOST_TURN, Math.min(MOST_TURN, value));
                    break;
                case Code.GO:
                    go = Math.max(0, Math.min(MOST_GO, value));
                    break;
                default:
                    rests = value != 0;
                    break;
            }
        }
    }

    /** Tokens of a text. A sign's kind is its byte, a word's its bytes as one number: words told are short. */
    private static final class Tokens {
        static final int END = -1;
        static final int NO_TOKEN = -2;
        static final int NUMBER = -3;
        static final int LETTER = -4;
        static final int AT_MOST = -5;
        static final int AT_LEAST = -6;
        static final int TOO_MUCH = 10000;

        private static final int BLANK = 0;
        private static final int LETTERS = 1;
        private static final int DIGITS = 2;
        private static final int SIGN = 3;
        private static final int WORD_FULL = 0xFFFFFF;

        private final int[] kinds = new int[MOST_TAPE + 1];
        private final int[] starts = new int[MOST_TAPE + 1];
        private final int[] values = new int[MOST_TAPE + 1];
        private int count;
        private int next;
        int kind;
        int start;
        int value;

        void split(int[] text, int length) {
            count = 0;
            next = 0;
            int before = BLANK;
            for (int i = 0; i < length && i < text.length && i < MOST_TAPE; i++) {
                int sort = sortOf(text[i]);
                if (sort != BLANK && !goesOn(before, sort, text[i])) {
                    kinds[count] = NO_TOKEN;
                    starts[count] = i;
                    values[count] = 0;
                    count++;
                }
                if (sort != BLANK) {
                    extend(sort, text[i]);
                }
                before = sort;
            }
            kinds[count] = END;
            starts[count] = length;
            advance();
        }

        /** Behind the last token the end stays the one that is come to. */
        void advance() {
            kind = kinds[next];
            start = starts[next];
            value = values[next];
            if (next < count) {
                next++;
            }
        }

        private static int sortOf(int c) {
            if (c == ' ' || c == '\n') {
                return BLANK;
            }
            if (isWithin(c, 'a', 'z') || isWithin(c, 'A', 'Z')) {
                return LETTERS;
            }
            return isWithin(c, '0', '9') ? DIGITS : SIGN;
        }

        private boolean goesOn(int before, int sort, int c) {
            if (before != sort || count == 0) {
                return false;
            }
            int last = kinds[count - 1];
            return sort != SIGN || c == '=' && (last == '<' || last == '>');
        }

        private void extend(int sort, int c) {
            if (count == 0) {
                return;
            }
            int last = count - 1;
            if (sort == DIGITS) {
                kinds[last] = NUMBER;
                values[last] = Math.min(TOO_MUCH, values[last] * 10 + c - '0');
            } else if (sort == LETTERS) {
                boolean full = values[last] < 0 || values[last] > WORD_FULL;
                values[last] = full ? NO_TOKEN : values[last] * 256 + c;
                kinds[last] = isWithin(values[last], 'A', 'H') ? LETTER : values[last];
            } else if (kinds[last] == NO_TOKEN) {
                kinds[last] = c;
            } else {
                kinds[last] = kinds[last] == '<' ? AT_MOST : AT_LEAST;
            }
        }
    }

    /** Reads a text, clause by clause, into code; stops at the first fault. */
    private static final class Parser {
        private static final int CANT_STAND = 1;
        private static final int WRONG_NUMBER = 2;
        private static final int TOO_DEEP = 3;
        private static final int SECOND_TIME = 4;
        private static final int UNTOLD = 5;
        private static final int TOO_MANY = 6;

        private static final int MOST_OPEN = 8;
        private static final int MOST_CLAUSES = 10;
        private static final int LAST_EYE_NUMBER = 15;
        private static final int NO_OPERATION = -1;

        private static final int WORD_LET = ('l' << 16) + ('e' << 8) + 't';
        private static final int WORD_TURN = ('t' << 24) + ('u' << 16) + ('r' << 8) + 'n';
        private static final int WORD_GO = ('g' << 8) + 'o';
        private static final int WORD_REST = ('r' << 24) + ('e' << 16) + ('s' << 8) + 't';
        private static final int WORD_OR = ('o' << 8) + 'r';
        private static final int WORD_AND = ('a' << 16) + ('n' << 8) + 'd';
        private static final int WORD_NOT = ('n' << 16) + ('o' << 8) + 't';
        private static final int WORD_LENS = ('l' << 24) + ('e' << 16) + ('n' << 8) + 's';
        private static final int WORD_PAIR = ('p' << 24) + ('a' << 16) + ('i' << 8) + 'r';
        private static final int WORD_TICK = ('t' << 24) + ('i' << 16) + ('c' << 8) + 'k';
        private static final int WORD_MIN = ('m' << 16) + ('i' << 8) + 'n';
        private static final int WORD_MAX = ('m' << 16) + ('a' << 8) + 'x';

        private final Tokens tokens = new Tokens();
        private final int[] code = new int[MOST_TAPE];
        private int size;
        private int open;
        private int told;
        private int used;
        int fault;
        int place;

        void parse(int[] text, int length) {
            tokens.split(text, length);
            size = 0;
            open = 0;
            told = 0;
            used = 0;
            fault = 0;
            place = NONE;
            for (int i = 0; i <= MOST_CLAUSES && fault == 0 && tokens.kind != Tokens.END; i++) {
                clause(i);
            }
        }

        int[] copyCode() {
            return Arrays.copyOf(code, size);
        }

        private void clause(int number) {
            int operation = clauseOperation(tokens.kind);
            if (operation == NO_OPERATION) {
                refuse(CANT_STAND);
            } else if (operation != Code.LET && (used >> operation & 1) != 0) {
                refuse(SECOND_TIME);
            } else if (number >= MOST_CLAUSES) {
                refuse(TOO_MANY);
            } else if (operation == Code.LET) {
                tokens.advance();
                letClause();
            } else {
                used |= 1 << operation;
                tokens.advance();
                boolean read = operation == Code.REST ? either() : sum();
                if (read && expect(';')) {
                    emit(operation, 0);
                }
            }
        }

        private void letClause() {
            int letter = tokens.value - 'A';
            if (tokens.kind != Tokens.LETTER) {
                refuse(CANT_STAND);
            } else if ((told >> letter & 1) != 0) {
                refuse(SECOND_TIME);
            } else {
                tokens.advance();
                if (sum() && expect(';')) {
                    emit(Code.LET, letter);
                    told |= 1 << letter;
                }
            }
        }

        /** An or waits until all that and binds behind it is read. */
        private boolean either() {
            boolean waiting = false;
            boolean read = ask();
            for (int i = 0; i < MOST_TAPE && read && isAndOr(tokens.kind); i++) {
                boolean and = tokens.kind == WORD_AND;
                if (!and && waiting) {
                    emit(Code.OR, 0);
                }
                tokens.advance();
                read = ask();
                if (and) {
                    emit(Code.AND, 0);
                } else {
                    waiting = true;
                }
            }
            if (waiting) {
                emit(Code.OR, 0);
            }
            return read;
        }

        private boolean ask() {
            int nots = 0;
            while (nots <= MOST_OPEN && tokens.kind == WORD_NOT) {
                if (!enter()) {
                    return false;
                }
                nots++;
            }
            if (!sum()) {
                return false;
            }
            int operation = compareOperation(tokens.kind);
            if (operation == NO_OPERATION) {
                return refuse(CANT_STAND);
            }
            tokens.advance();
            if (!sum()) {
                return false;
            }
            emit(operation, 0);
            for (int i = 0; i < nots; i++) {
                emit(Code.NOT, 0);
            }
            open -= nots;
            return true;
        }

        /** A plus or minus waits until all that times and by bind behind it is read. */
        private boolean sum() {
            int waiting = NO_OPERATION;
            boolean read = one();
            for (int i = 0; i < MOST_TAPE && read; i++) {
                int operation = joinOperation(tokens.kind);
                if (operation == NO_OPERATION) {
                    break;
                }
                boolean binds = operation == Code.MULTIPLY || operation == Code.DIVIDE;
                if (!binds && waiting != NO_OPERATION) {
                    emit(waiting, 0);
                }
                tokens.advance();
                read = one();
                if (binds) {
                    emit(operation, 0);
                } else {
                    waiting = operation;
                }
            }
            if (waiting != NO_OPERATION) {
                emit(waiting, 0);
            }
            return read;
        }

        private boolean one() {
            switch (tokens.kind) {
                case Tokens.NUMBER:
                    return number(Code.NUMBER, Tokens.TOO_MUCH - 1);
                case Tokens.LETTER:
                    return toldLetter();
                case WORD_LENS:
                    tokens.advance();
                    return number(Code.LENS, LAST_EYE_NUMBER);
                case WORD_PAIR:
                    tokens.advance();
                    return number(Code.PAIR, LAST_EYE_NUMBER);
                case WORD_TICK:
                    emit(Code.TICK, 0);
                    tokens.advance();
                    return true;
                case WORD_MIN:
                    tokens.advance();
                    return chosen(Code.MIN);
                case WORD_MAX:
                    tokens.advance();
                    return chosen(Code.MAX);
                case '(':
                    return bracketed();
                case '-':
                    return negated();
                default:
                    return refuse(CANT_STAND);
            }
        }

        private boolean number(int operation, int most) {
            if (tokens.kind != Tokens.NUMBER) {
                return refuse(CANT_STAND);
            }
            if (tokens.value > most) {
                return refuse(WRONG_NUMBER);
            }
            emit(operation, tokens.value);
            tokens.advance();
            return true;
        }

        private boolean toldLetter() {
            int letter = tokens.value - 'A';
            if ((told >> letter & 1) == 0) {
                return refuse(UNTOLD);
            }
            emit(Code.LETTER, letter);
            tokens.advance();
            return true;
        }

        private boolean bracketed() {
            if (!enter() || !sum() || !expect(')')) {
                return false;
            }
            open--;
            return true;
        }

        private boolean negated() {
            if (!enter() || !one()) {
                return false;
            }
            open--;
            emit(Code.NEGATE, 0);
            return true;
        }

        private boolean chosen(int operation) {
            if (tokens.kind != '(') {
                return refuse(CANT_STAND);
            }
            if (!enter() || !sum() || !expect(',') || !sum() || !expect(')')) {
                return false;
            }
            open--;
            emit(operation, 0);
            return true;
        }

        private boolean enter() {
            if (open >= MOST_OPEN) {
                return refuse(TOO_DEEP);
            }
            open++;
            tokens.advance();
            return true;
        }

        private boolean expect(int kind) {
            if (tokens.kind != kind) {
                return refuse(CANT_STAND);
            }
            tokens.advance();
            return true;
        }

        private boolean refuse(int found) {
            if (fault == 0) {
                fault = found;
                place = tokens.start;
            }
            return false;
        }

        private void emit(int operation, int operand) {
            if (size < code.length) {
                code[size] = (operand << Code.OPERATION_BITS) + operation;
                size++;
            }
        }

        private static boolean isAndOr(int kind) {
            return kind == WORD_AND || kind == WORD_OR;
        }

        private static int clauseOperation(int kind) {
            switch (kind) {
                case WORD_LET:
                    return Code.LET;
                case WORD_TURN:
                    return Code.TURN;
                case WORD_GO:
                    return Code.GO;
                case WORD_REST:
                    return Code.REST;
                default:
                    return NO_OPERATION;
            }
        }

        private static int compareOperation(int kind) {
            switch (kind) {
                case '<':
                    return Code.LESS;
                case Tokens.AT_MOST:
                    return Code.LESS_OR_LIKE;
                case '>':
                    return Code.MORE;
                case Tokens.AT_LEAST:
                    return Code.MORE_OR_LIKE;
                case '=':
                    return Code.LIKE;
                case '#':
                    return Code.UNLIKE;
                default:
                    return NO_OPERATION;
            }
        }

        private static int joinOperation(int kind) {
            switch (kind) {
                case '+':
                    return Code.ADD;
                case '-':
                    return Code.SUBTRACT;
                case '*':
                    return Code.MULTIPLY;
                case '/':
                    return Code.DIVIDE;
                default:
                    return NO_OPERATION;
            }
        }
    }
}
