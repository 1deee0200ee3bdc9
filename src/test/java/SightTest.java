/** Promises 5 to 12: lens, pair, ray, take, covered, ends, width, same. */
public final class SightTest {
    private static final Check CHECK = new Check("SightTest");
    private static final int FAR_OUT = Integer.MAX_VALUE;

    public static void main(String[] args) {
        lenses();
        pairs();
        raysToEachSide();
        raysCutDownwards();
        raysOnTicks();
        wrongRays();
        takes();
        coverings();
        openEnds();
        bestWidths();
        bodiesMoved();
        CHECK.end();
    }

    private static void lenses() {
        ManyEyes eyes = new ManyEyes(4, 4);
        CHECK.due("side below", eyes.lens(-1, 0), -1);
        CHECK.due("side above", eyes.lens(64, 0), -1);
        CHECK.due("width below", eyes.lens(0, -1), -1);
        CHECK.due("width above", eyes.lens(0, 8), -1);
        for (int i = 0; i < 16; i++) {
            CHECK.due("lens " + i, eyes.lens(i % 2 == 0 ? 0 : 63, i % 3 == 0 ? 0 : 7), i);
        }
        CHECK.due("the seventeenth", eyes.lens(0, 0), -1);
        CHECK.due("sixteen", eyes.about(3), 16);
    }

    private static void pairs() {
        ManyEyes eyes = new ManyEyes(4, 4);
        CHECK.due("without lenses", eyes.pair(0, 1, 1), -1);
        eyes.lens(0, 0);
        CHECK.due("with one lens", eyes.pair(0, 1, 1), -1);
        eyes.lens(0, 0);
        CHECK.due("a below", eyes.pair(-1, 1, 1), -1);
        CHECK.due("b below", eyes.pair(0, -1, 1), -1);
        CHECK.due("a above", eyes.pair(2, 1, 1), -1);
        CHECK.due("b above", eyes.pair(0, 2, 1), -1);
        CHECK.due("alike", eyes.pair(1, 1, 1), -1);
        CHECK.due("delay below", eyes.pair(0, 1, 0), -1);
        CHECK.due("delay above", eyes.pair(0, 1, 9), -1);
        for (int i = 0; i < 16; i++) {
            CHECK.due("pair " + i, eyes.pair(i % 2, 1 - i % 2, i % 3 == 0 ? 1 : 8), i);
        }
        CHECK.due("the seventeenth", eyes.pair(0, 1, 1), -1);
        CHECK.due("sixteen", eyes.about(4), 16);
    }

    /** Marks two cells away from the middle of nine by seven, each way. */
    private static void raysToEachSide() {
        ManyEyes eyes = new ManyEyes(9, 7);
        int[] moveX = {2, 2, 2, 0, -2, -2, -2, 0};
        int[] moveY = {-2, 0, 2, 2, 2, 0, -2, -2};
        for (int i = 0; i < 8; i++) {
            eyes.mark((3 + moveY[i]) * 9 + 4 + moveX[i], 10 + i);
        }
        for (int i = 0; i < 8; i++) {
            CHECK.due("ray to " + 8 * i, eyes.ray(72, 56, 8 * i, 0, false), 10 + i);
            CHECK.due("far to " + 8 * i, eyes.ray(72, 56, 8 * i, 0, true), 2);
        }
        eyes.mark(3 * 9 + 5, 99);
        CHECK.due("the first mark", eyes.ray(72, 56, 8, 0, false), 99);
        CHECK.due("the first mark's far", eyes.ray(72, 56, 8, 0, true), 1);
        CHECK.due("none", eyes.ray(0, 0, 4, 0, false), 0);
        CHECK.due("none's far", eyes.ray(0, 0, 4, 0, true), 41);
    }

    private static void raysCutDownwards() {
        ManyEyes eyes = new ManyEyes(8, 6);
        eyes.mark(8 + 3, 30);
        eyes.mark(8 + 4, 40);
        CHECK.due("way (16, 2) is in row 1 from k = 4 on", eyes.ray(8, 8, 9, 0, false), 40);
        CHECK.due("its far", eyes.ray(8, 8, 9, 0, true), 4);
        CHECK.due("way (16, 4) is in row 1 from k = 2 on", eyes.ray(8, 8, 10, 0, false), 30);
        eyes.mark(5, 50);
        CHECK.due("way (16, -2) is above the world on k = 5", eyes.ray(8, 8, 7, 0, false), 0);
        CHECK.due("its far", eyes.ray(8, 8, 7, 0, true), 41);
        CHECK.due("way (16, -2) from lower is not", eyes.ray(8, 10, 7, 0, false), 50);
        eyes.mark(2 * 8, 55);
        CHECK.due("the row's end is not the next row's start", eyes.ray(0, 24, 8, 0, false), 30);
        CHECK.due("the end of row 2 likewise", eyes.ray(0, 40, 8, 0, true), 41);
        CHECK.due("nor out below", eyes.ray(16, 0, 24, 0, true), 41);
        eyes.mark(3 * 8, 56);
        CHECK.due("the end of row 2 again", eyes.ray(0, 40, 8, 0, true), 41);
        eyes.mark(3 * 8, 0);
        eyes.mark(2 * 8, 0);
        eyes.mark(5 * 8, 60);
        CHECK.due("way (-2, 16) is left of the world on k = 5", eyes.ray(8, 8, 25, 0, true), 41);
        CHECK.due("way (-2, 16) from further right", eyes.ray(10, 8, 25, 0, true), 5);
    }

    private static void raysOnTicks() {
        ManyEyes eyes = new ManyEyes(8, 6);
        eyes.body(2, 2, 0, 5);
        eyes.body(4, -1, 0, 6);
        CHECK.due("tick 0", eyes.ray(8, 8, 8, 0, false), 5);
        CHECK.due("tick 1: body 1 is nearer", eyes.ray(8, 8, 8, 1, false), 6);
        CHECK.due("tick 1: its far", eyes.ray(8, 8, 8, 1, true), 3);
        CHECK.due("tick 4: out of the own cell's row", eyes.ray(8, 8, 8, 4, false), 0);
        CHECK.due("tick 999", eyes.ray(8, 8, 8, 999, true), 41);
        ManyEyes one = new ManyEyes(8, 6);
        one.body(3, 0, 0, 7);
        one.body(3, 0, 0, 8);
        CHECK.due("the lowest body", one.ray(8, 8, 8, 0, false), 7);
        one.body(0, 0, 0, 4);
        CHECK.due("a body in the first cell", one.ray(40, 8, 40, 0, false), 4);
        one.mark(0, 9);
        CHECK.due("a ray has left the place's own cell on k = 1", one.ray(8, 8, 8, 0, false), 7);
    }

    private static void wrongRays() {
        ManyEyes eyes = new ManyEyes(5, 4);
        CHECK.due("the last place", eyes.ray(79, 63, 63, 999, false), 0);
        CHECK.due("x below", eyes.ray(-1, 0, 0, 0, false), -1);
        CHECK.due("x above", eyes.ray(80, 0, 0, 0, false), -1);
        CHECK.due("y below", eyes.ray(0, -1, 0, 0, true), -1);
        CHECK.due("y above", eyes.ray(0, 64, 0, 0, true), -1);
        CHECK.due("side below", eyes.ray(0, 0, -1, 0, true), -1);
        CHECK.due("side above", eyes.ray(0, 0, 64, 0, true), -1);
        CHECK.due("tick below", eyes.ray(0, 0, 0, -1, true), -1);
        CHECK.due("tick above", eyes.ray(0, 0, 0, 1000, true), -1);
        CHECK.due("far out", eyes.ray(FAR_OUT, FAR_OUT, FAR_OUT, FAR_OUT, true), -1);
    }

    private static void takes() {
        ManyEyes eyes = new ManyEyes(8, 6);
        eyes.mark(8 + 4, 101);
        eyes.lens(8, 1);
        eyes.lens(9, 1);
        eyes.lens(9, 0);
        eyes.lens(0, 1);
        CHECK.due("101 / 4, cut", eyes.take(0, 8, 8, 0, 0), 25);
        CHECK.due("(2 + 1) * 101 / 4, cut", eyes.take(1, 8, 8, 0, 0), 75);
        CHECK.due("all of it", eyes.take(2, 8, 8, 0, 0), 101);
        CHECK.due("head and side go round", eyes.take(2, 8, 8, 63, 0), 0);
        CHECK.due("lens 3 by head 9 is as lens 1", eyes.take(3, 8, 8, 9, 0), 75);
        eyes.mark(1, 200);
        CHECK.due("sides 63, 0, 1 by head 0", eyes.take(3, 8, 24, 0, 0), 200);
        eyes.lens(59, 1);
        CHECK.due("side 60 of 58, 59, 60", eyes.take(4, 8, 24, 0, 0), 50);
        CHECK.due("sides 60, 61 of 59, 60, 61", eyes.take(4, 8, 24, 1, 0), 150);
        eyes.mark(1, 0);
        eyes.body(2 * 8 + 4, 0, -1, 255);
        CHECK.due("a body on tick 1", eyes.take(2, 8, 8, 0, 1), 255);
        CHECK.due("and on tick 0", eyes.take(2, 8, 8, 0, 0), 101);
        CHECK.due("lens below", eyes.take(-1, 8, 8, 0, 0), -1);
        CHECK.due("lens above", eyes.take(5, 8, 8, 0, 0), -1);
        CHECK.due("x above", eyes.take(0, 128, 8, 0, 0), -1);
        CHECK.due("y above", eyes.take(0, 8, 96, 0, 0), -1);
        CHECK.due("x below", eyes.take(0, -1, 8, 0, 0), -1);
        CHECK.due("y below", eyes.take(0, 8, -1, 0, 0), -1);
        CHECK.due("head below", eyes.take(0, 8, 8, -1, 0), -1);
        CHECK.due("head above", eyes.take(0, 8, 8, 64, 0), -1);
        CHECK.due("tick below", eyes.take(0, 8, 8, 0, -1), -1);
        CHECK.due("tick above", eyes.take(0, 8, 8, 0, 1000), -1);
        CHECK.due("the last tick", eyes.take(0, 8, 8, 0, 999), 25);
    }

    private static void coverings() {
        ManyEyes eyes = new ManyEyes(4, 4);
        CHECK.due("none sees", eyes.covered(-1), 64);
        CHECK.due("side 0", eyes.covered(0), 0);
        eyes.lens(0, 2);
        eyes.lens(63, 0);
        int[] sides = {60, 61, 62, 63, 0, 1, 2, 3};
        int[] want = {0, 0, 1, 2, 1, 1, 1, 0};
        for (int i = 0; i < sides.length; i++) {
            CHECK.due("covered " + sides[i], eyes.covered(sides[i]), want[i]);
        }
        CHECK.due("left open", eyes.covered(-1), 59);
        eyes.lens(32, 7);
        CHECK.due("fifteen less", eyes.covered(-1), 44);
        CHECK.due("its last", eyes.covered(39), 1);
        CHECK.due("behind its last", eyes.covered(40), 0);
        CHECK.due("side below NONE", eyes.covered(-2), -1);
        CHECK.due("side above", eyes.covered(64), -1);
    }

    private static void openEnds() {
        ManyEyes eyes = new ManyEyes(8, 6);
        eyes.mark(1, 200);
        CHECK.due("least without a lens", eyes.ends(8, 8, 8, 0, false), 0);
        CHECK.due("greatest without a lens", eyes.ends(8, 8, 8, 0, true), 255);
        eyes.lens(8, 2);
        CHECK.due("its take", eyes.take(0, 8, 8, 0, 0), 200);
        CHECK.due("weight 3: (1800 - 1530) / 3", eyes.ends(8, 8, 8, 0, false), 90);
        CHECK.due("weight 2: (1800 - 1785) / 2 rounded up", eyes.ends(7, 8, 8, 0, false), 8);
        CHECK.due("weight 1: below 0 is 0", eyes.ends(6, 8, 8, 0, false), 0);
        CHECK.due("greatest above 255 is 255", eyes.ends(8, 8, 8, 0, true), 255);
        CHECK.due("not covered, least", eyes.ends(5, 8, 8, 0, false), 0);
        CHECK.due("not covered, greatest", eyes.ends(5, 8, 8, 0, true), 255);
        ManyEyes more = new ManyEyes(8, 6);
        more.mark(8 + 4, 100);
        more.lens(8, 1);
        CHECK.due("take 25: greatest of weight 1", more.ends(9, 8, 8, 0, true), 103);
        CHECK.due("take 25: greatest of weight 2, cut", more.ends(8, 8, 8, 0, true), 51);
        CHECK.due("take 25: least", more.ends(9, 8, 8, 0, false), 0);
        more.lens(9, 1);
        CHECK.due("take 75: greatest in common", more.ends(9, 8, 8, 0, true), 103);
        CHECK.due("side 10 by lens 1 alone", more.ends(10, 8, 8, 0, true), 255);
        more.lens(9, 0);
        CHECK.due("width 0 tells it, least", more.ends(9, 8, 8, 0, false), 100);
        CHECK.due("width 0 tells it, greatest", more.ends(9, 8, 8, 0, true), 100);
        CHECK.due("by the head: round to side 0", more.ends(9, 8, 8, 55, true), 0);
        more.body(8 + 3, 2, 0, 30);
        CHECK.due("(2 * 100 + 30) / 4 on tick 0", more.take(1, 8, 8, 0, 0), 57);
        more.body(2, 1, 1, 240);
        CHECK.due("on tick 0", more.take(0, 8, 8, 0, 0), 240);
        CHECK.due("on tick 1", more.take(0, 8, 8, 0, 1), 25);
        CHECK.due("ends are of tick 0", more.ends(8, 8, 8, 0, false), 225);
        CHECK.due("side below", more.ends(-1, 8, 8, 0, true), -1);
        CHECK.due("side above", more.ends(64, 8, 8, 0, true), -1);
        CHECK.due("x out", more.ends(9, 128, 8, 0, true), -1);
        CHECK.due("y out", more.ends(9, 8, -1, 0, false), -1);
        CHECK.due("head below", more.ends(9, 8, 8, -1, false), -1);
        CHECK.due("head above", more.ends(9, 8, 8, 64, false), -1);
    }

    private static void bestWidths() {
        ManyEyes eyes = new ManyEyes(8, 6);
        CHECK.due("all alike: the least", eyes.width(0, 32, 8, 8, 0), 0);
        eyes.mark(8 + 4, 100);
        CHECK.due("0 against 0, 25, 33, 31, 28 ..", eyes.width(8, 40, 8, 8, 0), 2);
        CHECK.due("the other way round", eyes.width(40, 8, 8, 8, 0), 2);
        CHECK.due("by the head", eyes.width(0, 32, 8, 8, 8), 2);
        CHECK.due("100 against 0", eyes.width(9, 40, 8, 8, 0), 0);
        CHECK.due("a side and itself", eyes.width(9, 9, 8, 8, 0), 0);
        CHECK.due("the ray itself tells more", eyes.width(8, 9, 8, 8, 0), 0);
        eyes.body(4 + 8, 0, 1, 60);
        CHECK.due("of tick 0: still", eyes.width(8, 40, 8, 8, 0), 2);
        wideWidths();
        CHECK.due("one below", eyes.width(-1, 0, 8, 8, 0), -1);
        CHECK.due("one above", eyes.width(64, 0, 8, 8, 0), -1);
        CHECK.due("other below", eyes.width(0, -1, 8, 8, 0), -1);
        CHECK.due("other above", eyes.width(0, 64, 8, 8, 0), -1);
        CHECK.due("x out", eyes.width(0, 0, 128, 8, 0), -1);
        CHECK.due("y out", eyes.width(0, 0, 8, 96, 0), -1);
        CHECK.due("head above", eyes.width(0, 0, 8, 8, 64), -1);
        CHECK.due("head below", eyes.width(0, 0, 8, 8, -1), -1);
    }

    /** Side 40 sees a mark by itself, side 8 a greater one by its wide end alone. */
    private static void wideWidths() {
        ManyEyes eyes = new ManyEyes(9, 9);
        eyes.mark(4 * 9 + 2, 100);
        CHECK.due("0, 25, 33 .. against 100", eyes.width(40, 8, 72, 72, 0), 0);
        eyes.mark(4 * 9 + 6, 100);
        CHECK.due("100 and 100", eyes.width(40, 8, 72, 72, 0), 0);
        eyes.mark(4 * 9 + 6, 90);
        eyes.mark(5 * 9 + 6, 255);
        CHECK.due("116 - 48 and 111 - 43: the least of like ones", eyes.width(8, 40, 72, 72, 0), 6);
        eyes.mark(4 * 9 + 2, 120);
        CHECK.due("now the widest", eyes.width(8, 40, 72, 72, 0), 7);
        eyes.body(5 * 9 + 6, 1, 0, 1);
        CHECK.due("but not if a body is there on tick 0", eyes.width(8, 40, 72, 72, 0), 0);
    }

    private static void bodiesMoved() {
        ManyEyes eyes = new ManyEyes(6, 5);
        eyes.body(3, 1, 1, 90);
        CHECK.due("without a lens none is told", eyes.same(0, 2, 4, 8, 8, 0), 1);
        eyes.lens(8, 0);
        CHECK.due("further off in the ray", eyes.same(0, 2, 0, 8, 8, 0), 1);
        CHECK.due("nearer in the ray", eyes.same(0, -2, 0, 8, 8, 0), 1);
        CHECK.due("out of the ray", eyes.same(0, 0, 1, 8, 8, 0), 0);
        CHECK.due("not in the ray by this head", eyes.same(0, 0, 1, 8, 8, 16), 1);
        CHECK.due("not moved", eyes.same(0, 0, 0, 8, 8, 0), 1);
        CHECK.due("it is where it was", eyes.markOf(3, 0), 90);
        CHECK.due("out by x", eyes.same(0, 3, 0, 8, 8, 0), -1);
        CHECK.due("out by x below", eyes.same(0, -4, 0, 8, 8, 0), -1);
        CHECK.due("out by y", eyes.same(0, 0, 5, 8, 8, 0), -1);
        CHECK.due("out by y below", eyes.same(0, 0, -1, 8, 8, 0), -1);
        CHECK.due("far out", eyes.same(0, FAR_OUT, 0, 8, 8, 0), -1);
        CHECK.due("far out below", eyes.same(0, 0, Integer.MIN_VALUE, 8, 8, 0), -1);
        CHECK.due("body below", eyes.same(-1, 0, 0, 8, 8, 0), -1);
        CHECK.due("body above", eyes.same(1, 0, 0, 8, 8, 0), -1);
        CHECK.due("x out", eyes.same(0, 0, 0, 96, 8, 0), -1);
        CHECK.due("y out", eyes.same(0, 0, 0, 8, 80, 0), -1);
        CHECK.due("head out", eyes.same(0, 0, 0, 8, 8, 64), -1);
        eyes.mark(1, 90);
        CHECK.due("a mark ahead of it is like it", eyes.same(0, 0, 4, 8, 8, 0), 1);
        eyes.mark(1, 0);
        eyes.lens(24, 0);
        CHECK.due("all lenses: now in the second", eyes.same(0, -3, 2, 8, 8, 0), 0);
        eyes.body(2 * 6, 0, 0, 70);
        CHECK.due("up, within the second lens's ray", eyes.same(1, 0, -1, 8, 8, 0), 1);
        CHECK.due("down, within it", eyes.same(1, 0, 1, 8, 8, 0), 1);
        CHECK.due("to the place's own cell", eyes.same(1, 0, -2, 8, 8, 0), 0);
        CHECK.due("out below", eyes.same(1, 0, 3, 8, 8, 0), -1);
        CHECK.due("to the last row", eyes.same(1, 0, 2, 8, 8, 0), 1);
        CHECK.due("aside", eyes.same(1, 1, 0, 8, 8, 0), 0);
        CHECK.due("up and into the first lens's row", eyes.same(1, 4, -2, 8, 8, 0), 0);
        eyes.body(1, 0, 0, 80);
        CHECK.due("hidden by a nearer one", eyes.same(0, 1, 0, 8, 8, 0), 1);
        CHECK.due("the lower body in the same cell", eyes.same(0, -2, 0, 8, 8, 0), 0);
        CHECK.due("a higher body in the same cell", eyes.same(2, 2, 0, 8, 8, 0), 0);
    }
}
