import java.util.ArrayList;
import java.util.List;
import java.util.Random;

/** All promises: long runs of calls by chance (always the same ones), each answer compared with the model's. */
public final class ModelTest {
    private static final int RUNS = 250;
    private static final int CALLS = 500;

    private final Random random;
    private final List<String> calls = new ArrayList<>();
    private final ManyEyes eyes;
    private final Model model;
    private final int w;
    private final int h;
    private boolean wrong;

    private ModelTest(long seed) {
        random = new Random(seed);
        int askedW = random.nextInt(4) == 0 ? random.nextInt(30) : 4 + random.nextInt(5);
        int askedH = random.nextInt(4) == 0 ? random.nextInt(30) : 4 + random.nextInt(5);
        eyes = new ManyEyes(askedW, askedH);
        model = new Model(askedW, askedH);
        w = model.about(0);
        h = model.about(1);
        calls.add("new ManyEyes(" + askedW + ", " + askedH + ")");
    }

    public static void main(String[] args) {
        int runs = args.length > 0 ? Integer.parseInt(args[0]) : RUNS;
        int first = args.length > 1 ? Integer.parseInt(args[1]) : 0;
        for (int seed = first; seed < first + runs; seed++) {
            ModelTest test = new ModelTest(seed);
            for (int i = 0; i < CALLS && !test.wrong; i++) {
                test.callOne();
            }
            if (test.wrong) {
                System.out.println("ModelTest: seed " + seed);
                test.calls.forEach(System.out::println);
                System.exit(1);
            }
        }
        System.out.println("ModelTest: " + runs + " runs as the model's");
    }

    private void same(String call, int got, int want) {
        calls.add(call + " " + got);
        if (got != want) {
            wrong = true;
            calls.add("the model answers " + want);
        }
    }

    /** Mostly within, at times a little or far out. */
    private int near(int least, int most) {
        return switch (random.nextInt(60)) {
            case 0 -> least - 1;
            case 1 -> most + 1;
            case 2 -> random.nextInt();
            case 3 -> random.nextBoolean() ? Integer.MIN_VALUE : Integer.MAX_VALUE;
            case 4, 5 -> least;
            case 6, 7 -> most;
            default -> least + random.nextInt(Math.max(1, most - least + 1));
        };
    }

    private int x() {
        return near(0, 16 * w - 1);
    }

    private int y() {
        return near(0, 16 * h - 1);
    }

    private int side() {
        return near(0, 63);
    }

    private void callOne() {
        int kind = random.nextInt(100);
        if (kind < 30) {
            build(random.nextInt(10));
        } else if (kind < 50) {
            see(random.nextInt(8));
        } else if (kind < 65) {
            text();
        } else if (kind < 92) {
            fly(random.nextInt(12));
        } else {
            keep(random.nextInt(16));
        }
    }

    private void build(int kind) {
        switch (kind) {
            case 0, 1, 2, 3 -> {
                int cell = near(0, w * h - 1);
                int mark = random.nextInt(3) == 0 ? 0 : near(0, 255);
                same("mark(" + cell + ", " + mark + ")", eyes.mark(cell, mark) ? 1 : 0, model.mark(cell, mark) ? 1 : 0);
            }
            case 4 -> {
                int cell = near(0, w * h - 1);
                int wayX = near(-2, 2);
                int wayY = near(-2, 2);
                int mark = near(1, 255);
                same("body(" + cell + ", " + wayX + ", " + wayY + ", " + mark + ")",
                    eyes.body(cell, wayX, wayY, mark), model.body(cell, wayX, wayY, mark));
            }
            case 5, 6 -> {
                int side = side();
                int width = near(0, 7);
                same("lens(" + side + ", " + width + ")", eyes.lens(side, width), model.lens(side, width));
            }
            case 7 -> {
                int a = near(0, model.about(3) - 1);
                int b = near(0, model.about(3) - 1);
                int delay = near(1, 8);
                same("pair(" + a + ", " + b + ", " + delay + ")", eyes.pair(a, b, delay), model.pair(a, b, delay));
            }
            default -> {
                int what = near(0, 8);
                same("about(" + what + ")", eyes.about(what), model.about(what));
            }
        }
    }

    private void see(int kind) {
        int x = x();
        int y = y();
        int head = side();
        int tick = random.nextInt(3) == 0 ? near(0, 999) : random.nextInt(6);
        boolean yes = random.nextBoolean();
        String at = x + ", " + y + ", " + head;
        switch (kind) {
            case 0 -> {
                int cell = near(0, w * h - 1);
                same("markOf(" + cell + ", " + tick + ")", eyes.markOf(cell, tick), model.markOf(cell, tick));
            }
            case 1 -> same("ray(" + at + ", " + tick + ", " + yes + ")",
                eyes.ray(x, y, head, tick, yes), model.ray(x, y, head, tick, yes));
            case 2, 3 -> {
                int lens = near(0, model.about(3) - 1);
                same("take(" + lens + ", " + at + ", " + tick + ")",
                    eyes.take(lens, x, y, head, tick), model.take(lens, x, y, head, tick));
            }
            case 4 -> {
                int side = near(-1, 63);
                same("covered(" + side + ")", eyes.covered(side), model.covered(side));
            }
            case 5 -> {
                int side = side();
                same("ends(" + side + ", " + at + ", " + yes + ")",
                    eyes.ends(side, x, y, head, yes), model.ends(side, x, y, head, yes));
            }
            case 6 -> {
                int one = side();
                int other = side();
                same("width(" + one + ", " + other + ", " + at + ")",
                    eyes.width(one, other, x, y, head), model.width(one, other, x, y, head));
            }
            default -> {
                int body = near(0, model.about(2) - 1);
                int moveX = near(-2, 2);
                int moveY = near(-2, 2);
                same("same(" + body + ", " + moveX + ", " + moveY + ", " + at + ")",
                    eyes.same(body, moveX, moveY, x, y, head), model.same(body, moveX, moveY, x, y, head));
            }
        }
    }

    private void text() {
        switch (random.nextInt(12)) {
            case 0 -> feed(random.nextInt(), random.nextInt(), random.nextInt(), random.nextInt(), random.nextInt());
            case 1 -> {
                int n = near(0, 300);
                same("end(" + n + ")", eyes.end(n), model.end(n));
            }
            case 2 -> rule();
            default -> {
                String text = RandomText.next(random);
                if (random.nextInt(10) > 0) {
                    same("end(0)", eyes.end(0), model.end(0));
                }
                int before = model.about(7);
                for (int i = 0; i < text.length(); i += 20) {
                    feed(Check.four(text, i), Check.four(text, i + 4), Check.four(text, i + 8),
                        Check.four(text, i + 12), Check.four(text, i + 16));
                }
                int n = before + text.length();
                same("end(" + n + ") " + text, eyes.end(n), model.end(n));
                rule();
            }
        }
    }

    private void feed(int a, int b, int c, int d, int e) {
        same("feed(" + a + ", " + b + ", " + c + ", " + d + ", " + e + ")",
            eyes.feed(a, b, c, d, e), model.feed(a, b, c, d, e));
    }

    private void rule() {
        same("rule()", eyes.rule(), model.rule());
        for (int what = -1; what <= 2; what++) {
            same("fault(" + what + ")", eyes.fault(what), model.fault(what));
        }
        same("about(7)", eyes.about(7), model.about(7));
    }

    private void fly(int kind) {
        int rule = near(0, model.about(5) - 1);
        int n = near(1, random.nextBoolean() ? 60 : 9);
        int x = x();
        int y = y();
        int head = side();
        String at = x + ", " + y + ", " + head;
        switch (kind) {
            case 0, 1, 2, 3, 4 -> {
                int bits = random.nextBoolean() ? 0 : near(4, 20);
                same("fly(" + rule + ", " + at + ", " + n + ", " + bits + ")",
                    eyes.fly(rule, x, y, head, n, bits), model.fly(rule, x, y, head, n, bits));
                flown();
            }
            case 5 -> flown();
            case 6, 7, 8 -> {
                int tick = near(0, random.nextBoolean() ? 59 : 3);
                for (int what : new int[] {near(0, 4), near(100, 100 + Math.max(0, model.about(3))),
                    near(200, 200 + Math.max(0, model.about(4)))}) {
                    same("tick(" + tick + ", " + what + ")", eyes.tick(tick, what), model.tick(tick, what));
                }
            }
            default -> {
                int toX = random.nextInt(3) == 0 ? x() : x + random.nextInt(70);
                int toHead = random.nextInt(5) == 0 ? side() : head + random.nextInt(12);
                int what = near(0, 1);
                same("safe(" + rule + ", " + x + ", " + toX + ", " + y + ", " + head + ", " + toHead + ", " + n + ", "
                    + what + ")", eyes.safe(rule, x, toX, y, head, toHead, n, what),
                    model.safe(rule, x, toX, y, head, toHead, n, what));
            }
        }
    }

    private void flown() {
        for (int what = -1; what <= 6; what++) {
            same("flown(" + what + ")", eyes.flown(what), model.flown(what));
        }
    }

    private void keep(int kind) {
        int x = x();
        int y = y();
        int head = side();
        switch (kind) {
            case 0, 1 -> {
                same("read(" + x + ", " + y + ", " + head + ")", eyes.read(x, y, head), model.read(x, y, head));
                turnedAsFlown(model.about(6) - 1, x, y, head);
            }
            case 2, 3 -> {
                int flight = near(0, model.about(6) - 1);
                int turn = near(-8, 8);
                same("turned(" + flight + ", " + turn + ")", eyes.turned(flight, turn), model.turned(flight, turn));
            }
            case 4, 5, 6, 7 -> {
                int rule = near(-1, model.about(5) - 1);
                same("kept(" + rule + ")", eyes.kept(rule), model.kept(rule));
            }
            case 8, 9, 10, 11 -> {
                int row = near(0, h - 1);
                for (int what = -1; what <= 3; what++) {
                    same("parts(" + row + ", " + what + ")", eyes.parts(row, what), model.parts(row, what));
                }
            }
            case 12, 13 -> same("image()", eyes.image(), model.image());
            default -> {
                if (random.nextInt(2) == 0) {
                    same("back()", eyes.back(), model.back());
                    flown();
                }
            }
        }
    }

    /** Turns as one of the rules has them, at times with one more or one that isn't so. */
    private void turnedAsFlown(int flight, int x, int y, int head) {
        int rules = model.about(5);
        int n = 1 + random.nextInt(21);
        if (rules == 0 || random.nextInt(4) == 0) {
            return;
        }
        int rule = random.nextInt(rules);
        int flew = model.fly(rule, x, y, head, n, 0);
        same("fly(" + rule + ", " + x + ", " + y + ", " + head + ", " + n + ", 0)",
            eyes.fly(rule, x, y, head, n, 0), flew);
        int more = random.nextInt(6) == 0 ? 1 : 0;
        for (int t = 0; t < flew + more; t++) {
            int turn = t < flew && random.nextInt(100) > 0 ? model.tick(t, 0) : random.nextInt(17) - 8;
            same("turned(" + flight + ", " + turn + ")", eyes.turned(flight, turn), model.turned(flight, turn));
        }
        same("kept(" + rule + ")", eyes.kept(rule), model.kept(rule));
    }
}
