/** The edges of promises 1 to 4 and 27, sentence by sentence. */
public final class EdgeWorldTest {
    private static final Check CHECK = new Check("EdgeWorldTest");
    private static final Calls CALLS = new Calls(CHECK);
    private static final int NONE = ManyEyes.NONE;

    public static void main(String[] args) {
        nearestSizes();
        cellsOfASize();
        allEmptyAtFirst();
        theImageIsTheNewOne();
        marksWithin();
        marksOut();
        fullAndEmptyAgain();
        bodiesWithin();
        bodiesOut();
        sixBodies();
        ticksOfMarks();
        bodiesAtTheEdges();
        bodiesGoNoWayRound();
        theLowestBody();
        abouts();
        CHECK.end();
    }

    private static void nearestSizes() {
        CALLS.says("w by h CELLS (4 to 24 each; others: the nearest of these)");
        int[][] sizes = {{Integer.MIN_VALUE, 4}, {-24, 4}, {-1, 4}, {0, 4}, {3, 4}, {4, 4}, {5, 5}, {23, 23}, {24, 24},
            {25, 24}, {1000, 24}, {Integer.MAX_VALUE, 24}};
        for (int[] size : sizes) {
            ManyEyes wide = new ManyEyes(size[0], 10);
            CALLS.due("w of " + size[0], wide.about(0), size[1]);
            CALLS.due("h of 10", wide.about(1), 10);
            ManyEyes high = new ManyEyes(10, size[0]);
            CALLS.due("w of 10", high.about(0), 10);
            CALLS.due("h of " + size[0], high.about(1), size[1]);
        }
    }

    private static void cellsOfASize() {
        CALLS.says("THE WORLD: w by h CELLS (4 to 24 each), y * w + x");
        int[][] sizes = {{3, 3, 16}, {4, 4, 16}, {4, 24, 96}, {24, 4, 96}, {24, 24, 576}, {25, 25, 576}, {7, 5, 35}};
        for (int[] size : sizes) {
            ManyEyes eyes = new ManyEyes(size[0], size[1]);
            CALLS.due("the last cell", eyes.markOf(size[2] - 1, 0), 0);
            CALLS.due("behind it", eyes.markOf(size[2], 0), NONE);
            int w = eyes.about(0);
            int h = eyes.about(1);
            eyes.mark(size[2] - 1, 77);
            CALLS.due("it is the last of the last row", eyes.ray(8, 16 * h - 8, 8, 0, true), w - 1);
            CALLS.due("and of the last column", eyes.ray(16 * w - 8, 8, 24, 0, true), h - 1);
            CALLS.due("the last place", eyes.ray(16 * w - 1, 16 * h - 1, 0, 0, true), 41);
            CALLS.due("x behind it", eyes.ray(16 * w, 16 * h - 1, 0, 0, true), NONE);
            CALLS.due("y behind it", eyes.ray(16 * w - 1, 16 * h, 0, 0, true), NONE);
        }
    }

    private static void allEmptyAtFirst() {
        CALLS.says("all empty; no LENSES, RULES");
        ManyEyes eyes = new ManyEyes(5, 4);
        for (int cell = 0; cell < 20; cell++) {
            CALLS.due("mark", eyes.markOf(cell, 0), 0);
            CALLS.due("mark later", eyes.markOf(cell, 999), 0);
        }
        for (int side = 0; side < 64; side++) {
            CALLS.due("takes nothing", eyes.ray(40, 40, side, 0, false), 0);
            CALLS.due("far", eyes.ray(40, 40, side, 0, true), 41);
            CALLS.due("covered", eyes.covered(side), 0);
        }
        CALLS.answers(eyes, "about(2) = 0", "about(3) = 0", "about(4) = 0", "about(5) = 0", "about(6) = 0",
            "about(7) = 0", "about(8) = 0", "covered(NONE) = 64", "take(0, 8, 8, 0, 0) = NONE", "fault(0) = NONE",
            "fault(1) = NONE", "flown(0) = NONE", "tick(0, 0) = NOTICK", "fly(0, 8, 8, 0, 1, 0) = NONE",
            "kept(NONE) = 0", "kept(0) = NONE", "parts(0, 0) = NONE", "safe(0, 8, 8, 8, 0, 0, 1, 0) = NONE",
            "turned(0, 0) = NONE", "pair(0, 1, 1) = NONE", "same(0, 0, 0, 8, 8, 0) = NONE",
            "ends(0, 8, 8, 0, false) = 0", "ends(0, 8, 8, 0, true) = 255");
    }

    private static void theImageIsTheNewOne() {
        CALLS.says("THE IMAGE is this.");
        CALLS.due("back in a new one", new ManyEyes(6, 5).back(), 0);
        ManyEyes eyes = Worlds.full();
        ManyEyes other = Worlds.fresh();
        eyes.back();
        CALLS.due("a text with a fault in both", Check.rule(eyes, "x"), NONE);
        CALLS.due("a text with a fault in both", Check.rule(other, "x"), NONE);
        CALLS.due("as a new one", Told.of(eyes).equals(Told.of(other)), true);
    }

    private static void marksWithin() {
        CALLS.says("each with a MARK (0 .. 255; 0: empty, at first)");
        CALLS.due("NONE", ManyEyes.NONE, -1);
        CALLS.answers(new ManyEyes(5, 4), "markOf(0, 0) = 0", "mark(0, 255) = true", "mark(0, 256) = false",
            "markOf(0, 0) = 255", "mark(0, 0) = true", "mark(0, -1) = false", "markOf(0, 0) = 0", "about(8) = 0");
        CALLS.says("A CELL's MARK: true.");
        ManyEyes eyes = new ManyEyes(5, 4);
        CALLS.answers(eyes, "mark(0, 0) = true", "about(8) = 0", "mark(0, 1) = true", "markOf(0, 0) = 1",
            "mark(0, 255) = true", "markOf(0, 0) = 255", "mark(19, 254) = true", "markOf(19, 0) = 254",
            "about(8) = 2", "mark(0, 255) = true", "about(8) = 2", "mark(0, 0) = true", "markOf(0, 0) = 0",
            "about(8) = 1", "mark(0, 0) = true", "about(8) = 1");
        for (int cell = 0; cell < 20; cell++) {
            CALLS.due("each cell", eyes.mark(cell, 10 + cell), true);
        }
        for (int cell = 0; cell < 20; cell++) {
            CALLS.due("its own mark", eyes.markOf(cell, 0), 10 + cell);
        }
    }

    private static void marksOut() {
        CALLS.says("False for others.");
        CALLS.changesNothing(Worlds::furnished, "mark(-1, 9) = false", "mark(30, 9) = false", "mark(MIN, 9) = false",
            "mark(MAX, 9) = false", "mark(4, -1) = false", "mark(4, 256) = false", "mark(4, MIN) = false",
            "mark(4, MAX) = false", "mark(3, 256) = false", "mark(3, -1) = false", "mark(30, 256) = false");
        CALLS.answers(Worlds.furnished(), "mark(0, 9) = true", "mark(29, 9) = true", "mark(4, 255) = true");
    }

    private static void fullAndEmptyAgain() {
        CALLS.says("8 CELLS with a MARK of their own");
        ManyEyes eyes = new ManyEyes(24, 24);
        for (int cell = 0; cell < 576; cell++) {
            eyes.mark(cell, 1 + cell % 255);
        }
        CALLS.answers(eyes, "about(8) = 576", "mark(575, 0) = true", "about(8) = 575");
        for (int cell = 0; cell < 576; cell++) {
            eyes.mark(cell, 0);
        }
        CALLS.answers(eyes, "about(8) = 0", "body(7, 0, 0, 5) = 0", "about(8) = 0", "mark(7, 6) = true",
            "about(8) = 1", "markOf(7, 0) = 5");
    }

    private static void bodiesWithin() {
        CALLS.says("BODIES 0 .. 5: a CELL, a way by x and by y (-2 .. 2 CELLS a TICK each), a MARK (1 .. 255)");
        CALLS.answers(Worlds.fresh(), "body(0, -2, -2, 1) = 0", "body(29, 2, 2, 255) = 1", "body(14, -2, 2, 255) = 2",
            "body(15, 2, -2, 1) = 3", "body(14, 0, 0, 7) = 4", "about(2) = 5", "markOf(0, 0) = 1", "markOf(29, 0) = 255",
            "markOf(24, 1) = 255", "markOf(15, 0) = 1", "markOf(14, 1) = 7", "markOf(5, 1) = 1");
    }

    private static void bodiesOut() {
        CALLS.says("A BODY: its number. NONE for others");
        CALLS.changesNothing(Worlds::furnished, "body(-1, 0, 0, 9) = NONE", "body(30, 0, 0, 9) = NONE",
            "body(MIN, 0, 0, 9) = NONE", "body(MAX, 0, 0, 9) = NONE", "body(4, -3, 0, 9) = NONE",
            "body(4, 3, 0, 9) = NONE", "body(4, MIN, 0, 9) = NONE", "body(4, MAX, 0, 9) = NONE",
            "body(4, 0, -3, 9) = NONE", "body(4, 0, 3, 9) = NONE", "body(4, 0, MIN, 9) = NONE",
            "body(4, 0, MAX, 9) = NONE", "body(4, 0, 0, 0) = NONE", "body(4, 0, 0, -1) = NONE",
            "body(4, 0, 0, 256) = NONE", "body(4, 0, 0, MIN) = NONE", "body(4, 0, 0, MAX) = NONE");
        CALLS.answers(Worlds.furnished(), "body(4, 0, 0, 9) = 3");
    }

    private static void sixBodies() {
        CALLS.says("or if there are 6.");
        ManyEyes eyes = Worlds.fresh();
        for (int i = 0; i < 6; i++) {
            CALLS.due("bodies ahead of body " + i, eyes.about(2), i);
            CALLS.due("body " + i, eyes.body(7, 0, 0, 10 + i), i);
        }
        CALLS.answers(eyes, "about(2) = 6", "body(8, 0, 0, 99) = NONE", "about(2) = 6", "markOf(8, 0) = 0",
            "same(5, 0, 0, 8, 8, 0) = 1", "same(6, 0, 0, 8, 8, 0) = NONE");
        CALLS.changesNothing(Worlds::full, "body(4, 0, 0, 9) = NONE", "body(0, -2, 2, 255) = NONE");
    }

    private static void ticksOfMarks() {
        CALLS.says("MARK of a CELL on a TICK (0 .. 999). NONE for others.");
        ManyEyes eyes = Worlds.fresh();
        eyes.mark(29, 9);
        eyes.body(0, 0, 0, 8);
        eyes.body(1, 1, 0, 7);
        CALLS.answers(eyes, "markOf(29, 0) = 9", "markOf(29, 999) = 9", "markOf(0, 0) = 8", "markOf(0, 999) = 8",
            "markOf(1, 0) = 7", "markOf(1, 999) = 0", "markOf(5, 4) = 7", "markOf(5, 5) = 0", "markOf(5, 3) = 0");
        CALLS.changesNothing(Worlds::furnished, "markOf(29, -1) = NONE", "markOf(29, 1000) = NONE",
            "markOf(29, MIN) = NONE", "markOf(29, MAX) = NONE", "markOf(-1, 0) = NONE", "markOf(30, 0) = NONE",
            "markOf(MIN, 0) = NONE", "markOf(MAX, 0) = NONE", "markOf(29, 999) = 255");
    }

    /** On its last tick in the world, then nowhere: not in the cell that a number further on would be, either. */
    private static void bodiesAtTheEdges() {
        CALLS.says("if that is in THE WORLD (else nowhere)");
        atTheEdge(8, 1, 0, 9);
        atTheEdge(11, -1, 0, 10);
        atTheEdge(12, 0, 1, 17);
        atTheEdge(7, 0, -1, 2);
        atTheEdge(7, 2, 0, 9);
        atTheEdge(7, -2, 0, 5);
        atTheEdge(2, 0, 2, 12);
        atTheEdge(17, 0, -2, 7);
        atTheEdge(3, 1, 1, 9);
        atTheEdge(16, -1, -1, 10);
        atTheEdge(2, 2, 2, 14);
        atTheEdge(7, -2, 1, 10);
    }

    /** In a world of five by four: on tick 1 in the cell last, on tick 2 out. */
    private static void atTheEdge(int cell, int wayX, int wayY, int last) {
        ManyEyes eyes = new ManyEyes(5, 4);
        eyes.body(cell, wayX, wayY, 9);
        String way = cell + " by " + wayX + ", " + wayY;
        for (int at = 0; at < 20; at++) {
            CALLS.due("0: " + way + " in " + at, eyes.markOf(at, 0), at == cell ? 9 : 0);
            CALLS.due("1: " + way + " in " + at, eyes.markOf(at, 1), at == last ? 9 : 0);
            CALLS.due("2: " + way + " in " + at, eyes.markOf(at, 2), 0);
            CALLS.due("3: " + way + " in " + at, eyes.markOf(at, 3), 0);
        }
    }

    private static void bodiesGoNoWayRound() {
        CALLS.says("on TICK t it is in the CELL that is t times its way further");
        for (int start = 0; start < 20; start++) {
            for (int way = 0; way < 25; way++) {
                ManyEyes eyes = new ManyEyes(5, 4);
                int wayX = way % 5 - 2;
                int wayY = way / 5 - 2;
                eyes.body(start, wayX, wayY, 9);
                for (int tick = 0; tick < 5; tick++) {
                    for (int cell = 0; cell < 20; cell++) {
                        boolean in = cell % 5 - start % 5 == tick * wayX && cell / 5 - start / 5 == tick * wayY;
                        CALLS.due("from " + start + " way " + way, eyes.markOf(cell, tick), in ? 9 : 0);
                    }
                }
            }
        }
    }

    private static void theLowestBody() {
        CALLS.says("A CELL's MARK on TICK t: of the lowest BODY in it, else its own.");
        ManyEyes eyes = Worlds.fresh();
        eyes.mark(2, 50);
        eyes.body(0, 1, 0, 10);
        eyes.body(4, -1, 0, 20);
        eyes.body(2, 0, 0, 30);
        CALLS.answers(eyes, "markOf(2, 0) = 30", "markOf(2, 1) = 30", "markOf(2, 2) = 10", "markOf(2, 3) = 30",
            "markOf(3, 1) = 20", "markOf(3, 3) = 10", "markOf(1, 3) = 20", "markOf(2, 999) = 30");
        ManyEyes own = Worlds.fresh();
        own.mark(2, 50);
        own.body(2, 0, 1, 1);
        CALLS.answers(own, "markOf(2, 0) = 1", "markOf(2, 1) = 50", "markOf(8, 1) = 1", "mark(8, 60) = true",
            "markOf(8, 0) = 60", "markOf(8, 1) = 1", "markOf(8, 2) = 60", "mark(2, 0) = true", "markOf(2, 0) = 1",
            "markOf(2, 1) = 0");
    }

    private static void abouts() {
        CALLS.says("0 w, 1 h, 2 BODIES, 3 LENSES, 4 PAIRS, 5 RULES, 6 READ FLIGHTS, 7 bytes of the tape");
        CALLS.changesNothing(Worlds::furnished, "about(0) = 6", "about(1) = 5", "about(2) = 3", "about(3) = 4",
            "about(4) = 3", "about(5) = 3", "about(6) = 2", "about(7) = 12", "about(8) = 4");
        CALLS.changesNothing(Worlds::full, "about(2) = 6", "about(3) = 16", "about(4) = 16", "about(5) = 8",
            "about(6) = 6", "about(7) = 300", "about(8) = 3");
        CALLS.says("8 CELLS with a MARK of their own. NONE for others.");
        CALLS.changesNothing(Worlds::furnished, "about(-1) = NONE", "about(9) = NONE", "about(MIN) = NONE",
            "about(MAX) = NONE");
    }
}
