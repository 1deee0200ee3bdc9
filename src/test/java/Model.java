import java.util.ArrayList;
import java.util.HashMap;
import java.util.HashSet;
import java.util.List;
import java.util.Map;
import java.util.Set;
import java.util.function.Supplier;

/** The document once more, as plainly and slowly as it can be told, to compare the class with. */
final class Model {
    static final int NONE = -1;

    record Body(int cell, int wayX, int wayY, int mark) { }

    record Lens(int side, int width) { }

    record Pair(int a, int b, int delay) { }

    record Place(int x, int y) { }

    record Moment(int turn, int go, int x, int y, int head, List<Integer> takes, List<Integer> pairs) { }

    record Flight(List<Moment> moments, int x, int y, int head, boolean hit, boolean rested, int over) { }

    static final class Read {
        final Place place;
        final int head;
        final List<Integer> turns;

        Read(Place place, int head, List<Integer> turns) {
            this.place = place;
            this.head = head;
            this.turns = new ArrayList<>(turns);
        }
    }

    private final int w;
    private final int h;
    private Map<Integer, Integer> marks = new HashMap<>();
    private List<Body> bodies = new ArrayList<>();
    private List<Lens> lenses = new ArrayList<>();
    private List<Pair> pairs = new ArrayList<>();
    private List<String> rules = new ArrayList<>();
    private List<Read> reads = new ArrayList<>();
    private Flight latest;
    private Supplier<Integer> image;
    private String tape = "";
    private boolean textRead;
    private ModelText.Fault fault;

    Model(int w, int h) {
        this.w = w < 4 ? 4 : w > 24 ? 24 : w;
        this.h = h < 4 ? 4 : h > 24 ? 24 : h;
        image();
    }

    boolean mark(int cell, int mark) {
        if (cell < 0 || cell >= w * h || mark < 0 || mark > 255) {
            return false;
        }
        marks.put(cell, mark);
        return true;
    }

    int body(int cell, int wayX, int wayY, int mark) {
        if (cell < 0 || cell >= w * h || wayX < -2 || wayX > 2 || wayY < -2 || wayY > 2 || mark < 1 || mark > 255) {
            return NONE;
        }
        if (bodies.size() == 6) {
            return NONE;
        }
        bodies.add(new Body(cell, wayX, wayY, mark));
        return bodies.size() - 1;
    }

    int markOf(int cell, int tick) {
        if (cell < 0 || cell >= w * h || tick < 0 || tick > 999) {
            return NONE;
        }
        return markAt(bodies, cell % w, cell / w, tick);
    }

    private int markAt(List<Body> present, int cellX, int cellY, int tick) {
        for (Body body : present) {
            if (body.cell % w + tick * body.wayX == cellX && body.cell / w + tick * body.wayY == cellY) {
                return body.mark;
            }
        }
        return marks.getOrDefault(cellY * w + cellX, 0);
    }

    int lens(int side, int width) {
        if (side < 0 || side > 63 || width < 0 || width > 7 || lenses.size() == 16) {
            return NONE;
        }
        lenses.add(new Lens(side, width));
        return lenses.size() - 1;
    }

    int pair(int a, int b, int delay) {
        if (a < 0 || a >= lenses.size() || b < 0 || b >= lenses.size() || a == b) {
            return NONE;
        }
        if (delay < 1 || delay > 8 || pairs.size() == 16) {
            return NONE;
        }
        pairs.add(new Pair(a, b, delay));
        return pairs.size() - 1;
    }

    /** Way by x, way by y. */
    static int[] way(int side) {
        int q = side / 16;
        int r = 2 * (side % 16) - 16;
        return switch (q) {
            case 0 -> new int[] {16, r};
            case 1 -> new int[] {-r, 16};
            case 2 -> new int[] {-16, -r};
            default -> new int[] {r, -16};
        };
    }

    /** What it takes, its far. */
    private int[] rayFrom(List<Body> present, Place from, int side, int tick) {
        int[] way = way(side);
        for (int k = 1; k <= 40; k++) {
            int cellX = (int) Math.floor((from.x + k * way[0]) / 16.0);
            int cellY = (int) Math.floor((from.y + k * way[1]) / 16.0);
            if (cellX < 0 || cellY < 0 || cellX >= w || cellY >= h) {
                break;
            }
            if (markAt(present, cellX, cellY, tick) != 0) {
                return new int[] {markAt(present, cellX, cellY, tick), k};
            }
        }
        return new int[] {0, 41};
    }

    private boolean isPlace(int x, int y) {
        return x >= 0 && y >= 0 && x < 16 * w && y < 16 * h;
    }

    private static boolean isSide(int side) {
        return side >= 0 && side < 64;
    }

    int ray(int x, int y, int side, int tick, boolean far) {
        if (!isPlace(x, y) || !isSide(side) || tick < 0 || tick > 999) {
            return NONE;
        }
        return rayFrom(bodies, new Place(x, y), side, tick)[far ? 1 : 0];
    }

    private int takeOf(List<Body> present, Lens lens, Place from, int head, int tick) {
        int sum = 0;
        for (int i = -lens.width; i <= lens.width; i++) {
            int side = Math.floorMod(head + lens.side + i, 64);
            sum += rayFrom(present, from, side, tick)[0] * (lens.width + 1 - Math.abs(i));
        }
        return sum / ((lens.width + 1) * (lens.width + 1));
    }

    int take(int lens, int x, int y, int head, int tick) {
        if (lens < 0 || lens >= lenses.size() || !isPlace(x, y) || !isSide(head) || tick < 0 || tick > 999) {
            return NONE;
        }
        return takeOf(bodies, lenses.get(lens), new Place(x, y), head, tick);
    }

    int covered(int side) {
        if (side < -1 || side > 63) {
            return NONE;
        }
        int[] by = new int[64];
        for (Lens lens : lenses) {
            for (int i = -lens.width; i <= lens.width; i++) {
                by[Math.floorMod(lens.side + i, 64)]++;
            }
        }
        if (side >= 0) {
            return by[side];
        }
        int none = 0;
        for (int count : by) {
            none += count == 0 ? 1 : 0;
        }
        return none;
    }

    int ends(int side, int x, int y, int head, boolean high) {
        if (!isSide(side) || !isPlace(x, y) || !isSide(head)) {
            return NONE;
        }
        double least = 0;
        double greatest = 255;
        for (Lens lens : lenses) {
            for (int i = -lens.width; i <= lens.width; i++) {
                if (Math.floorMod(lens.side + i, 64) == side) {
                    double own = lens.width + 1 - Math.abs(i);
                    double all = (lens.width + 1) * (lens.width + 1);
                    double taken = takeOf(bodies, lens, new Place(x, y), head, 0);
                    least = Math.max(least, Math.ceil((taken * all - 255 * (all - own)) / own));
                    greatest = Math.min(greatest, Math.floor(((taken + 1) * all - 1) / own));
                }
            }
        }
        return (int) (high ? greatest : least);
    }

    int width(int one, int other, int x, int y, int head) {
        if (!isSide(one) || !isSide(other) || !isPlace(x, y) || !isSide(head)) {
            return NONE;
        }
        int best = 0;
        for (int width = 1; width <= 7; width++) {
            if (gap(one, other, x, y, head, width) > gap(one, other, x, y, head, best)) {
                best = width;
            }
        }
        return best;
    }

    private int gap(int one, int other, int x, int y, int head, int width) {
        Place from = new Place(x, y);
        return Math.abs(takeOf(bodies, new Lens(one, width), from, head, 0)
            - takeOf(bodies, new Lens(other, width), from, head, 0));
    }

    int same(int body, int moveX, int moveY, int x, int y, int head) {
        if (body < 0 || body >= bodies.size() || !isPlace(x, y) || !isSide(head)) {
            return NONE;
        }
        Body is = bodies.get(body);
        long cellX = (long) is.cell % w + moveX;
        long cellY = (long) is.cell / w + moveY;
        if (cellX < 0 || cellY < 0 || cellX >= w || cellY >= h) {
            return NONE;
        }
        List<Body> moved = new ArrayList<>(bodies);
        moved.set(body, new Body((int) (cellY * w + cellX), is.wayX, is.wayY, is.mark));
        for (Lens lens : lenses) {
            Place from = new Place(x, y);
            if (takeOf(bodies, lens, from, head, 0) != takeOf(moved, lens, from, head, 0)) {
                return 0;
            }
        }
        return 1;
    }

    int feed(int a, int b, int c, int d, int e) {
        if (tape.length() + 20 > 300) {
            return NONE;
        }
        for (int four : new int[] {a, b, c, d, e}) {
            tape += (char) (four >> 24 & 255);
            tape += (char) (four >> 16 & 255);
            tape += (char) (four >> 8 & 255);
            tape += (char) (four & 255);
        }
        return tape.length();
    }

    int end(int n) {
        if (n < 0 || n > tape.length()) {
            return NONE;
        }
        tape = tape.substring(0, n);
        return n;
    }

    int rule() {
        if (rules.size() == 8) {
            return NONE;
        }
        String text = tape;
        tape = "";
        textRead = true;
        fault = ModelText.faultOf(text);
        if (fault != null) {
            return NONE;
        }
        rules.add(text);
        return rules.size() - 1;
    }

    int fault(int what) {
        if (!textRead || what < 0 || what > 1) {
            return NONE;
        }
        if (fault == null) {
            return what == 0 ? 0 : NONE;
        }
        return what == 0 ? fault.code : fault.place;
    }

    private boolean isStart(int x, int y) {
        return isPlace(x, y) && markAt(bodies, x / 16, y / 16, 0) == 0;
    }

    private Flight flight(int rule, int startX, int startY, int startHead, int n, int bits) {
        ModelText text = new ModelText(rules.get(rule), bits == 0 ? 1000000 : (int) Math.pow(2, bits - 1) - 1);
        List<Moment> moments = new ArrayList<>();
        int x = startX;
        int y = startY;
        int head = startHead;
        for (int t = 0; t < n; t++) {
            List<Integer> takes = new ArrayList<>();
            for (Lens lens : lenses) {
                takes.add(takeOf(bodies, lens, new Place(x, y), head, t));
            }
            List<Integer> compared = new ArrayList<>();
            for (Pair pair : pairs) {
                int value = 0;
                if (t >= pair.delay) {
                    List<Integer> past = moments.get(t - pair.delay).takes;
                    value = past.get(pair.a) * takes.get(pair.b) - takes.get(pair.a) * past.get(pair.b);
                }
                compared.add(value);
            }
            ModelText.Steer steer = text.steer(takes, compared, t);
            if (steer.rest()) {
                return new Flight(moments, x, y, head, false, true, text.over());
            }
            moments.add(new Moment(steer.turn(), steer.go(), x, y, head, takes, compared));
            head = Math.floorMod(head + steer.turn(), 64);
            x += (int) Math.floor(steer.go() * way(head)[0] / 16.0);
            y += (int) Math.floor(steer.go() * way(head)[1] / 16.0);
            if (!isPlace(x, y) || markAt(bodies, x / 16, y / 16, t + 1) != 0) {
                return new Flight(moments, x, y, head, true, false, text.over());
            }
        }
        return new Flight(moments, x, y, head, false, false, text.over());
    }

    int fly(int rule, int x, int y, int head, int n, int bits) {
        if (rule < 0 || rule >= rules.size() || !isStart(x, y) || !isSide(head) || n < 1 || n > 60) {
            return NONE;
        }
        if (bits != 0 && (bits < 4 || bits > 20)) {
            return NONE;
        }
        latest = flight(rule, x, y, head, n, bits);
        return latest.moments.size();
    }

    int flown(int what) {
        if (latest == null) {
            return NONE;
        }
        return switch (what) {
            case 0 -> latest.x;
            case 1 -> latest.y;
            case 2 -> latest.head;
            case 3 -> latest.hit ? 1 : 0;
            case 4 -> latest.rested ? 1 : 0;
            case 5 -> latest.over;
            default -> NONE;
        };
    }

    int tick(int tick, int what) {
        if (latest == null || tick < 0 || tick >= latest.moments.size()) {
            return -10000000;
        }
        Moment moment = latest.moments.get(tick);
        switch (what) {
            case 0: return moment.turn;
            case 1: return moment.go;
            case 2: return moment.x;
            case 3: return moment.y;
            case 4: return moment.head;
            default: break;
        }
        if (what >= 100 && what - 100 < moment.takes.size()) {
            return moment.takes.get(what - 100);
        }
        if (what >= 200 && what - 200 < moment.pairs.size()) {
            return moment.pairs.get(what - 200);
        }
        return -10000000;
    }

    int safe(int rule, int fromX, int toX, int y, int fromHead, int toHead, int n, int what) {
        if (rule < 0 || rule >= rules.size() || n < 1 || n > 60 || what < 0 || what > 1) {
            return NONE;
        }
        if (!isPlace(fromX, y) || !isPlace(toX, y) || !isSide(fromHead) || !isSide(toHead)) {
            return NONE;
        }
        if (fromX > toX || fromHead > toHead) {
            return NONE;
        }
        List<int[]> starts = new ArrayList<>();
        for (int x = fromX; x <= toX; x += 16) {
            for (int head = fromHead; head <= toHead; head++) {
                starts.add(new int[] {x, head});
            }
        }
        if (starts.size() > 64) {
            return NONE;
        }
        for (int[] start : starts) {
            if (isStart(start[0], y) && flight(rule, start[0], y, start[1], n, 0).hit) {
                return start[what];
            }
        }
        return NONE;
    }

    int read(int x, int y, int head) {
        if (!isPlace(x, y) || !isSide(head) || reads.size() == 6) {
            return NONE;
        }
        reads.add(new Read(new Place(x, y), head, List.of()));
        return reads.size() - 1;
    }

    int turned(int flight, int turn) {
        if (flight < 0 || flight >= reads.size() || turn < -8 || turn > 8) {
            return NONE;
        }
        List<Integer> turns = reads.get(flight).turns;
        if (turns.size() == 20) {
            return NONE;
        }
        turns.add(turn);
        return turns.size();
    }

    private boolean isKept(int rule) {
        for (Read read : reads) {
            if (!isStart(read.place.x, read.place.y)) {
                return false;
            }
            int size = read.turns.size();
            Flight flight = flight(rule, read.place.x, read.place.y, read.head, size, 0);
            List<Integer> turns = new ArrayList<>();
            for (Moment moment : flight.moments) {
                turns.add(moment.turn);
            }
            if (!turns.equals(read.turns)) {
                return false;
            }
        }
        return true;
    }

    int kept(int rule) {
        if (rule < -1 || rule >= rules.size()) {
            return NONE;
        }
        if (rule >= 0) {
            return isKept(rule) ? 1 : 0;
        }
        int count = 0;
        for (int i = 0; i < rules.size(); i++) {
            count += isKept(i) ? 1 : 0;
        }
        return count;
    }

    int parts(int y, int what) {
        if (y < 0 || y >= h || what < 0 || what > 2) {
            return NONE;
        }
        List<Integer> keepers = new ArrayList<>();
        for (int i = 0; i < rules.size(); i++) {
            if (isKept(i)) {
                keepers.add(i);
            }
        }
        int[] best = {NONE, NONE, 1};
        for (int x = 8; x < 16 * w; x += 16) {
            for (int head = 0; head <= 56; head += 8) {
                if (!isStart(x, 16 * y + 8)) {
                    continue;
                }
                Set<Integer> turns = new HashSet<>();
                for (int rule : keepers) {
                    Flight flight = flight(rule, x, 16 * y + 8, head, 1, 0);
                    turns.add(flight.rested ? 0 : flight.moments.get(0).turn);
                }
                if (turns.size() > best[2]) {
                    best = new int[] {x, head, turns.size()};
                }
            }
        }
        return best[0] == NONE ? NONE : best[what];
    }

    int image() {
        Map<Integer, Integer> marksThen = new HashMap<>(marks);
        List<Body> bodiesThen = List.copyOf(bodies);
        List<Lens> lensesThen = List.copyOf(lenses);
        List<Pair> pairsThen = List.copyOf(pairs);
        List<String> rulesThen = List.copyOf(rules);
        List<Read> readsThen = copyReads(reads);
        Flight latestThen = latest;
        image = () -> {
            marks = new HashMap<>(marksThen);
            bodies = new ArrayList<>(bodiesThen);
            lenses = new ArrayList<>(lensesThen);
            pairs = new ArrayList<>(pairsThen);
            rules = new ArrayList<>(rulesThen);
            reads = copyReads(readsThen);
            latest = latestThen;
            return rules.size();
        };
        return rules.size();
    }

    private static List<Read> copyReads(List<Read> from) {
        List<Read> copy = new ArrayList<>();
        for (Read read : from) {
            copy.add(new Read(read.place, read.head, read.turns));
        }
        return copy;
    }

    int back() {
        return image.get();
    }

    int about(int what) {
        return switch (what) {
            case 0 -> w;
            case 1 -> h;
            case 2 -> bodies.size();
            case 3 -> lenses.size();
            case 4 -> pairs.size();
            case 5 -> rules.size();
            case 6 -> reads.size();
            case 7 -> tape.length();
            case 8 -> (int) marks.values().stream().filter(mark -> mark != 0).count();
            default -> NONE;
        };
    }
}
