import java.math.BigInteger;

/** The edges of promises 5 to 12, sentence by sentence. */
public final class EdgeSightTest {
    private static final Check CHECK = new Check("EdgeSightTest");
    private static final Calls CALLS = new Calls(CHECK);
    private static final int P = Worlds.RING_PLACE;

    public static void main(String[] args) {
        lensesWithin();
        lensesOut();
        pairsWithin();
        pairsOut();
        raysGoingRound();
        raysNearAndFar();
        raysCutDownwards();
        raysOfTheOwnCell();
        raysToBodies();
        raysOut();
        takesOfWidths();
        takesGoingRound();
        takesCut();
        takesOut();
        coveredByNoneAndAll();
        coveredGoingRound();
        coveredOut();
        endsWithoutALens();
        endsOfTheSidesWeight();
        endsRounded();
        endsOfAllRows();
        endsInCommon();
        endsGoingRound();
        endsOut();
        bestWidths();
        widthsGoingRound();
        widthsOut();
        movedToTheEdges();
        notToldFromWhereItIs();
        sameOut();
        CHECK.end();
    }

    private static void lensesWithin() {
        CALLS.says("LENSES 0 .. 15: a SIDE by the head and a WIDTH (0 .. 7).");
        CALLS.answers(Worlds.fresh(), "lens(0, 0) = 0", "lens(63, 7) = 1", "lens(0, 7) = 2", "lens(63, 0) = 3",
            "lens(0, 0) = 4", "about(3) = 5", "covered(0) = 4", "covered(63) = 3", "covered(56) = 1", "covered(55) = 0");
    }

    private static void lensesOut() {
        CALLS.says("A LENS: its number. NONE for others, or if there are 16.");
        CALLS.changesNothing(Worlds::furnished, "lens(-1, 0) = NONE", "lens(64, 0) = NONE", "lens(MIN, 0) = NONE",
            "lens(MAX, 0) = NONE", "lens(5, -1) = NONE", "lens(5, 8) = NONE", "lens(5, MIN) = NONE",
            "lens(5, MAX) = NONE");
        CALLS.answers(Worlds.furnished(), "lens(5, 0) = 4");
        ManyEyes eyes = Worlds.fresh();
        for (int i = 0; i < 16; i++) {
            CALLS.due("lens " + i, eyes.lens(i, 0), i);
        }
        CALLS.answers(eyes, "about(3) = 16", "lens(16, 0) = NONE", "about(3) = 16", "covered(16) = 0",
            "take(15, 8, 8, 0, 0) = 0", "take(16, 8, 8, 0, 0) = NONE");
        CALLS.changesNothing(Worlds::full, "lens(0, 0) = NONE", "lens(63, 7) = NONE");
    }

    private static void pairsWithin() {
        CALLS.says("PAIRS 0 .. 15: LENSES a and b, DELAY (1 .. 8)");
        CALLS.answers(Worlds.furnished(), "pair(0, 3, 1) = 3", "pair(3, 0, 8) = 4", "pair(2, 1, 1) = 5",
            "pair(2, 1, 1) = 6", "about(4) = 7");
    }

    private static void pairsOut() {
        CALLS.says("A PAIR: its number. NONE for others (a and b unlike), or if there are 16.");
        CALLS.changesNothing(Worlds::furnished, "pair(-1, 1, 1) = NONE", "pair(4, 1, 1) = NONE", "pair(MIN, 1, 1) = NONE",
            "pair(MAX, 1, 1) = NONE", "pair(1, -1, 1) = NONE", "pair(1, 4, 1) = NONE", "pair(1, MIN, 1) = NONE",
            "pair(1, MAX, 1) = NONE", "pair(0, 0, 1) = NONE", "pair(3, 3, 8) = NONE", "pair(4, 4, 1) = NONE",
            "pair(0, 1, 0) = NONE", "pair(0, 1, 9) = NONE", "pair(0, 1, -1) = NONE", "pair(0, 1, MIN) = NONE",
            "pair(0, 1, MAX) = NONE");
        ManyEyes few = Worlds.fresh();
        CALLS.answers(few, "pair(0, 1, 1) = NONE", "lens(0, 0) = 0", "pair(0, 1, 1) = NONE", "pair(1, 0, 1) = NONE",
            "lens(0, 0) = 1", "pair(0, 1, 1) = 0", "about(4) = 1");
        ManyEyes eyes = Worlds.fresh();
        eyes.lens(0, 0);
        eyes.lens(1, 0);
        for (int i = 0; i < 16; i++) {
            CALLS.due("pair " + i, eyes.pair(i % 2, 1 - i % 2, 1 + i % 8), i);
        }
        CALLS.answers(eyes, "about(4) = 16", "pair(0, 1, 1) = NONE", "about(4) = 16");
        CALLS.changesNothing(Worlds::full, "pair(0, 1, 1) = NONE", "pair(15, 14, 8) = NONE");
    }

    private static void raysGoingRound() {
        CALLS.says("q 0: (16, r), 1: (-r, 16), 2: (-16, -r), 3: (r, -16).");
        ManyEyes eyes = Worlds.ring();
        for (int side = 0; side < 64; side++) {
            eyes.mark(Worlds.ringCell(side), side + 1);
        }
        CALLS.answers(eyes, "about(8) = 64");
        for (int side = 0; side < 64; side++) {
            CALLS.due("to " + side, eyes.ray(P, P, side, 0, false), side + 1);
            CALLS.due("far to " + side, eyes.ray(P, P, side, 0, true), 11);
        }
        ManyEyes corners = new ManyEyes(5, 5);
        corners.mark(0, 48);
        corners.mark(4, 1);
        corners.mark(24, 16);
        corners.mark(20, 32);
        corners.mark(2, 56);
        CALLS.answers(corners, "ray(40, 40, 0, 0, false) = 1", "ray(40, 40, 16, 0, false) = 16",
            "ray(40, 40, 32, 0, false) = 32", "ray(40, 40, 48, 0, false) = 48", "ray(40, 40, 56, 0, false) = 56",
            "ray(36, 40, 63, 0, false) = 1", "ray(35, 40, 63, 0, false) = 0", "ray(40, 43, 1, 0, false) = 1",
            "ray(40, 44, 1, 0, false) = 0", "ray(40, 36, 15, 0, false) = 16", "ray(40, 35, 15, 0, false) = 0",
            "ray(36, 40, 17, 0, false) = 16", "ray(35, 40, 17, 0, false) = 0");
    }

    private static void raysNearAndFar() {
        CALLS.says("the first with a MARK: it takes that, its FAR is k; out of THE WORLD, or without any: it takes 0, its FAR is 41.");
        ManyEyes eyes = Worlds.ring();
        eyes.mark(23, 9);
        eyes.mark(575, 8);
        eyes.mark(552, 7);
        CALLS.answers(eyes, "ray(8, 8, 8, 0, false) = 9", "ray(8, 8, 8, 0, true) = 23", "ray(0, 0, 16, 0, false) = 8",
            "ray(0, 0, 16, 0, true) = 23", "ray(15, 15, 24, 0, true) = 23", "ray(383, 383, 48, 0, true) = 41",
            "ray(383, 0, 24, 0, true) = 23", "ray(383, 383, 40, 0, true) = 23", "ray(8, 8, 56, 0, true) = 41",
            "ray(8, 8, 40, 0, false) = 0", "ray(8, 8, 40, 0, true) = 41", "ray(367, 8, 8, 0, true) = 1",
            "ray(368, 8, 8, 0, true) = 41", "ray(368, 8, 8, 0, false) = 0", "mark(22, 255) = true",
            "ray(8, 8, 8, 0, false) = 255", "ray(8, 8, 8, 0, true) = 22", "mark(1, 1) = true",
            "ray(8, 8, 8, 0, false) = 1", "ray(8, 8, 8, 0, true) = 1", "mark(1, 0) = true", "mark(22, 0) = true",
            "mark(23, 0) = true", "ray(8, 8, 8, 0, false) = 0", "ray(8, 8, 8, 0, true) = 41",
            "mark(24, 5) = true", "ray(8, 8, 8, 0, true) = 41");
    }

    private static void raysCutDownwards() {
        CALLS.says("for k = 1 .. 40 the CELL of (X + k dx, Y + k dy) (sixteenths cut downwards)");
        ManyEyes eyes = new ManyEyes(6, 5);
        eyes.mark(6, 9);
        eyes.mark(1, 8);
        eyes.mark(25, 7);
        eyes.mark(11, 6);
        CALLS.answers(eyes, "ray(2, 8, 25, 0, false) = 9", "ray(1, 8, 25, 0, false) = 0", "ray(1, 8, 25, 0, true) = 41",
            "ray(0, 8, 25, 0, true) = 41", "ray(0, 8, 24, 0, true) = 1", "ray(8, 2, 7, 0, false) = 8",
            "ray(8, 1, 7, 0, false) = 0", "ray(8, 1, 7, 0, true) = 41", "ray(8, 77, 9, 0, false) = 7",
            "ray(8, 78, 9, 0, false) = 0", "ray(8, 78, 9, 0, true) = 41", "ray(93, 8, 23, 0, false) = 6",
            "ray(94, 8, 23, 0, false) = 0", "ray(94, 8, 23, 0, true) = 41");
        ManyEyes inner = new ManyEyes(6, 5);
        inner.mark(13, 9);
        CALLS.answers(inner, "ray(0, 29, 9, 0, false) = 0", "ray(0, 30, 9, 0, false) = 9", "ray(0, 34, 7, 0, false) = 9",
            "ray(0, 33, 7, 0, false) = 0", "ray(15, 47, 8, 0, true) = 1", "ray(15, 48, 8, 0, true) = 41");
    }

    /** k goes from 1, and each step goes a whole cell on: no ray comes to its own cell, whatever is in it. */
    private static void raysOfTheOwnCell() {
        CALLS.says("(The place's own CELL counts, too.)");
        ManyEyes eyes = new ManyEyes(6, 5);
        eyes.mark(14, 9);
        eyes.mark(16, 8);
        for (int side = 0; side < 64; side++) {
            boolean sees = side >= 6 && side <= 9;
            CALLS.due("from its own cell to " + side, eyes.ray(40, 40, side, 0, false), sees ? 8 : 0);
            CALLS.due("its far to " + side, eyes.ray(40, 40, side, 0, true), sees ? 2 : 41);
        }
    }

    private static void raysToBodies() {
        CALLS.says("What a RAY from a place (in THE WORLD) to a SIDE takes on a TICK (far false)");
        ManyEyes eyes = new ManyEyes(6, 5);
        CALLS.answers(eyes, "body(0, 0, 0, 1) = 0", "body(29, 0, 0, 255) = 1", "ray(40, 8, 40, 0, false) = 1",
            "ray(40, 8, 40, 999, true) = 2", "ray(8, 72, 8, 0, false) = 255", "ray(8, 72, 8, 999, true) = 5",
            "body(0, 0, 0, 9) = 2", "ray(40, 8, 40, 0, false) = 1", "body(5, -1, 0, 7) = 3", "ray(40, 8, 40, 3, false) = 1",
            "ray(40, 8, 40, 4, false) = 7", "ray(40, 8, 40, 4, true) = 1", "ray(40, 8, 40, 5, false) = 1",
            "ray(40, 8, 8, 0, false) = 7", "ray(40, 8, 8, 2, true) = 1", "ray(40, 8, 8, 3, true) = 41",
            "ray(40, 8, 40, 6, false) = 1", "mark(0, 200) = true", "ray(40, 8, 40, 0, false) = 1");
    }

    private static void raysOut() {
        CALLS.says("What a RAY from a place (in THE WORLD) to a SIDE takes on a TICK (far false), its FAR. NONE for others.");
        CALLS.changesNothing(Worlds::furnished, "ray(-1, 8, 0, 0, false) = NONE", "ray(96, 8, 0, 0, true) = NONE",
            "ray(MIN, 8, 0, 0, true) = NONE", "ray(MAX, 8, 0, 0, false) = NONE", "ray(8, -1, 0, 0, true) = NONE",
            "ray(8, 80, 0, 0, false) = NONE", "ray(8, MIN, 0, 0, false) = NONE", "ray(8, MAX, 0, 0, true) = NONE",
            "ray(8, 8, -1, 0, false) = NONE", "ray(8, 8, 64, 0, true) = NONE", "ray(8, 8, MIN, 0, true) = NONE",
            "ray(8, 8, MAX, 0, false) = NONE", "ray(8, 8, 0, -1, true) = NONE", "ray(8, 8, 0, 1000, false) = NONE",
            "ray(8, 8, 0, MIN, false) = NONE", "ray(8, 8, 0, MAX, true) = NONE", "ray(0, 0, 8, 0, false) = 200",
            "ray(0, 0, 8, 0, true) = 3");
        CALLS.answers(Worlds.furnished(), "ray(0, 0, 0, 0, true) = 41", "ray(95, 79, 63, 999, true) = 41",
            "ray(95, 0, 24, 999, false) = 44", "ray(95, 79, 56, 0, true) = 2", "ray(95, 79, 56, 0, false) = 44",
            "ray(0, 79, 8, 999, true) = 2", "ray(95, 47, 56, 999, true) = 2", "ray(95, 47, 56, 999, false) = 33");
    }

    private static void takesOfWidths() {
        CALLS.says("a LENS takes RAYS to SIDES (HEAD + its SIDE + i) mod 64, i from -WIDTH to WIDTH, each times WIDTH + 1 - |i|");
        int[][] outermost = {{0, 255}, {1, 63}, {2, 28}, {3, 15}, {4, 10}, {5, 7}, {6, 5}, {7, 3}};
        int[][] middle = {{0, 255}, {1, 127}, {2, 85}, {3, 63}, {4, 51}, {5, 42}, {6, 36}, {7, 31}};
        for (int width = 0; width <= 7; width++) {
            for (int side : new int[] {30, 30 - width - 1, 30 - width, 30 + width, 30 + width + 1}) {
                ManyEyes eyes = Worlds.ring();
                eyes.lens(20, width);
                Worlds.markSides(eyes, side, side, 255);
                int i = Math.abs(side - 30);
                int want = i > width ? 0 : i == width ? outermost[width][1] : middle[width][1];
                CALLS.due("width " + width + " of " + side, eyes.take(0, P, P, 10, 0), want);
            }
        }
    }

    private static void takesGoingRound() {
        CALLS.says("(HEAD + its SIDE + i) mod 64");
        int[][] lenses = {{0, 0}, {63, 0}, {0, 63}, {63, 63}, {60, 4}, {32, 32}, {61, 61}, {5, 0}};
        for (int[] lens : lenses) {
            int middle = (lens[0] + lens[1]) % 64;
            ManyEyes eyes = Worlds.ring();
            eyes.lens(lens[0], 7);
            eyes.image();
            for (int i = -8; i <= 8; i++) {
                eyes.back();
                Worlds.markSides(eyes, middle + i, middle + i, 255);
                int want = Math.max(0, 8 - Math.abs(i)) * 255 / 64;
                CALLS.due(lens[0] + " by head " + lens[1] + " at " + i, eyes.take(0, P, P, lens[1], 0), want);
            }
        }
    }

    private static void takesCut() {
        CALLS.says("together / ((WIDTH + 1) (WIDTH + 1)), cut: its TAKE.");
        for (int width = 0; width <= 7; width++) {
            ManyEyes eyes = Worlds.ring();
            eyes.lens(0, width);
            CALLS.due("nothing by width " + width, eyes.take(0, P, P, 0, 0), 0);
            Worlds.markSides(eyes, 0, 63, 255);
            CALLS.due("all by width " + width, eyes.take(0, P, P, 0, 0), 255);
            Worlds.markSides(eyes, width, width, 254);
            CALLS.due("a little less by width " + width, eyes.take(0, P, P, 0, 0), 254);
            Worlds.markSides(eyes, 0, 63, 0);
            Worlds.markSides(eyes, width, width, (width + 1) * (width + 1) - 1);
            CALLS.due("too little by width " + width, eyes.take(0, P, P, 0, 0), 0);
            Worlds.markSides(eyes, width, width, (width + 1) * (width + 1));
            CALLS.due("just enough by width " + width, eyes.take(0, P, P, 0, 0), 1);
        }
    }

    private static void takesOut() {
        CALLS.says("TAKE of a LENS at a place with a HEAD on a TICK. NONE for others.");
        CALLS.changesNothing(Worlds::furnished, "take(-1, 8, 8, 0, 0) = NONE", "take(4, 8, 8, 0, 0) = NONE",
            "take(MIN, 8, 8, 0, 0) = NONE", "take(MAX, 8, 8, 0, 0) = NONE", "take(0, -1, 8, 0, 0) = NONE",
            "take(0, 96, 8, 0, 0) = NONE", "take(0, MIN, 8, 0, 0) = NONE", "take(0, MAX, 8, 0, 0) = NONE",
            "take(0, 8, -1, 0, 0) = NONE", "take(0, 8, 80, 0, 0) = NONE", "take(0, 8, MIN, 0, 0) = NONE",
            "take(0, 8, MAX, 0, 0) = NONE", "take(0, 8, 8, -1, 0) = NONE", "take(0, 8, 8, 64, 0) = NONE",
            "take(0, 8, 8, MIN, 0) = NONE", "take(0, 8, 8, MAX, 0) = NONE", "take(0, 8, 8, 0, -1) = NONE",
            "take(0, 8, 8, 0, 1000) = NONE", "take(0, 8, 8, 0, MIN) = NONE", "take(0, 8, 8, 0, MAX) = NONE",
            "take(1, 0, 0, 0, 0) = 200");
        CALLS.answers(Worlds.furnished(), "take(1, 0, 0, 0, 999) = 200", "take(1, 95, 79, 48, 0) = 44",
            "take(1, 0, 79, 0, 999) = 90", "take(3, 95, 79, 63, 0) = 0", "take(1, 95, 0, 63, 0) = 0");
    }

    private static void coveredByNoneAndAll() {
        CALLS.says("COVERED of a SIDE by the head; how many SIDES none takes (side NONE).");
        ManyEyes eyes = Worlds.fresh();
        CALLS.answers(eyes, "covered(NONE) = 64", "covered(0) = 0", "covered(63) = 0", "lens(0, 7) = 0",
            "covered(NONE) = 49", "lens(15, 7) = 1", "covered(NONE) = 34", "lens(30, 7) = 2", "lens(45, 7) = 3",
            "covered(NONE) = 4", "lens(0, 7) = 4", "covered(NONE) = 4", "lens(55, 1) = 5", "covered(NONE) = 1",
            "covered(53) = 0", "lens(53, 0) = 6", "covered(NONE) = 0", "covered(53) = 1");
        ManyEyes one = Worlds.fresh();
        for (int i = 0; i < 16; i++) {
            CALLS.due("covered by " + i, one.covered(40), i);
            one.lens(40, 0);
        }
        CALLS.answers(one, "covered(40) = 16", "covered(39) = 0", "covered(41) = 0", "covered(NONE) = 63");
    }

    private static void coveredGoingRound() {
        CALLS.says("COVERED: how many LENSES take a RAY to a SIDE by the head.");
        for (int side : new int[] {0, 1, 6, 7, 8, 31, 32, 56, 57, 62, 63}) {
            for (int width = 0; width <= 7; width++) {
                ManyEyes eyes = Worlds.fresh();
                eyes.lens(side, width);
                CALLS.due("none but its own", eyes.covered(-1), 63 - 2 * width);
                for (int i = -8; i <= 8; i++) {
                    CALLS.due(side + " with " + width + " at " + i, eyes.covered(Math.floorMod(side + i, 64)),
                        Math.abs(i) <= width ? 1 : 0);
                }
            }
        }
    }

    private static void coveredOut() {
        CALLS.says("how many SIDES none takes (side NONE). NONE for others.");
        CALLS.changesNothing(Worlds::furnished, "covered(-2) = NONE", "covered(64) = NONE", "covered(MIN) = NONE",
            "covered(MAX) = NONE", "covered(0) = 2", "covered(63) = 2", "covered(NONE) = 43");
    }

    private static void endsWithoutALens() {
        CALLS.says("what all such LENSES have in common (0, 255 without any)");
        ManyEyes eyes = Worlds.ring();
        eyes.mark(Worlds.ringCell(8), 100);
        CALLS.answers(eyes, "ends(8, 200, 200, 0, false) = 0", "ends(8, 200, 200, 0, true) = 255", "lens(10, 1) = 0",
            "ends(8, 200, 200, 0, false) = 0", "ends(8, 200, 200, 0, true) = 255", "ends(12, 200, 200, 0, true) = 255",
            "ends(9, 200, 200, 0, true) = 3", "ends(11, 200, 200, 0, true) = 3", "ends(10, 200, 200, 0, true) = 1",
            "lens(8, 0) = 1", "ends(8, 200, 200, 0, false) = 100", "ends(8, 200, 200, 0, true) = 100",
            "ends(7, 200, 200, 0, true) = 255");
    }

    /** All its rays alike: of width 1 the take is that mark, in the middle by 2 of 4, at the ends by 1 of 4. */
    private static void endsOfTheSidesWeight() {
        CALLS.says("least: its TAKE times all weights, less 255 for each other weight, / the SIDE's weight, rounded up; greatest: its TAKE and one times all weights, less 1, / the SIDE's weight, cut; 0 to 255");
        int[][] middle = {{0, 0, 1}, {1, 0, 3}, {126, 0, 253}, {127, 0, 255}, {128, 1, 255}, {254, 253, 255},
            {255, 255, 255}};
        for (int[] row : middle) {
            ends(1, row[0], 20, row[1], row[2]);
        }
        int[][] outermost = {{0, 0, 3}, {1, 0, 7}, {62, 0, 251}, {63, 0, 255}, {64, 0, 255}, {191, 0, 255},
            {192, 3, 255}, {254, 251, 255}, {255, 255, 255}};
        for (int[] row : outermost) {
            ends(1, row[0], 19, row[1], row[2]);
            ends(1, row[0], 21, row[1], row[2]);
            ends(1, row[0], 18, 0, 255);
            ends(1, row[0], 22, 0, 255);
        }
        int[][] alone = {{0, 0, 0}, {1, 1, 1}, {128, 128, 128}, {255, 255, 255}};
        for (int[] row : alone) {
            ends(0, row[0], 20, row[1], row[2]);
        }
        ends(7, 255, 13, 255, 255);
        ends(7, 254, 13, 191, 255);
        ends(7, 251, 13, 0, 255);
        ends(7, 252, 13, 63, 255);
        ends(7, 3, 13, 0, 255);
        ends(7, 2, 13, 0, 191);
        ends(7, 0, 27, 0, 63);
    }

    private static void ends(int width, int mark, int side, int least, int greatest) {
        ManyEyes eyes = Worlds.ring();
        eyes.lens(20, width);
        Worlds.markSides(eyes, 20 - width, 20 + width, mark);
        String of = "width " + width + ", mark " + mark + ", side " + side;
        CALLS.due("least of " + of, eyes.ends(side, P, P, 0, false), least);
        CALLS.due("greatest of " + of, eyes.ends(side, P, P, 0, true), greatest);
    }

    /** Weights 1 2 3 2 1, nine in all. */
    private static void endsRounded() {
        CALLS.says("/ the SIDE's weight, rounded up");
        ends(2, 254, 19, 251, 255);
        ends(2, 253, 19, 246, 255);
        ends(2, 200, 21, 8, 255);
        ends(2, 199, 21, 3, 255);
        ends(2, 198, 21, 0, 255);
        CALLS.says("/ the SIDE's weight, cut; 0 to 255");
        ends(2, 0, 19, 0, 4);
        ends(2, 1, 19, 0, 8);
        ends(2, 2, 21, 0, 13);
        ends(2, 0, 20, 0, 2);
        ends(2, 1, 20, 0, 5);
        ends(2, 0, 18, 0, 8);
    }

    /** Not by the formula, but by which sums the other rays can come to; each take from 0 to 255, each ray. */
    private static void endsOfAllRows() {
        CALLS.says("of all rows of what RAYS take (0 .. 255 each) by which each LENS by itself can have its TAKE, the least and the greatest of this SIDE");
        for (int width = 0; width <= 7; width++) {
            int all = (width + 1) * (width + 1);
            for (int i = -width; i <= width; i++) {
                int own = width + 1 - Math.abs(i);
                BigInteger sums = sumsOfOthers(width, i);
                for (int take = 0; take <= 255; take++) {
                    int least = 0;
                    while (!canBe(sums, own * least, take * all, all)) {
                        least++;
                    }
                    int greatest = 255;
                    while (!canBe(sums, own * greatest, take * all, all)) {
                        greatest--;
                    }
                    ends(width, take, 20 + i, least, greatest);
                }
            }
        }
    }

    /** A bit for each sum that the rays of a lens but the one at i can come to. */
    private static BigInteger sumsOfOthers(int width, int i) {
        BigInteger sums = BigInteger.ONE;
        for (int other = -width; other <= width; other++) {
            int weight = width + 1 - Math.abs(other);
            for (int part = 1; part <= 128 && other != i; part *= 2) {
                sums = sums.or(sums.shiftLeft(part * weight));
            }
        }
        return sums;
    }

    private static boolean canBe(BigInteger sums, int own, int from, int all) {
        for (int sum = from; sum < from + all; sum++) {
            if (sum >= own && sums.testBit(sum - own)) {
                return true;
            }
        }
        return false;
    }

    private static void endsInCommon() {
        CALLS.says("what all such LENSES have in common");
        ManyEyes eyes = Worlds.ring();
        Worlds.markSides(eyes, 19, 21, 200);
        eyes.lens(20, 1);
        CALLS.answers(eyes, "ends(20, 200, 200, 0, false) = 145", "ends(20, 200, 200, 0, true) = 255",
            "lens(21, 1) = 1", "take(1, 200, 200, 0, 0) = 150", "ends(20, 200, 200, 0, false) = 145",
            "ends(21, 200, 200, 0, false) = 45", "ends(20, 200, 200, 0, true) = 255", "lens(22, 1) = 2",
            "take(2, 200, 200, 0, 0) = 50", "ends(21, 200, 200, 0, true) = 203", "ends(21, 200, 200, 0, false) = 45",
            "ends(22, 200, 200, 0, true) = 101", "ends(22, 200, 200, 0, false) = 0", "lens(21, 0) = 3",
            "ends(21, 200, 200, 0, false) = 200", "ends(21, 200, 200, 0, true) = 200",
            "ends(20, 200, 200, 0, false) = 145");
    }

    private static void endsGoingRound() {
        CALLS.says("OPEN ENDS of a SIDE by the head at a place with a HEAD on TICK 0");
        for (int head : new int[] {0, 1, 32, 62, 63}) {
            ManyEyes eyes = Worlds.ring();
            eyes.lens(63, 1);
            eyes.lens(0, 0);
            Worlds.markSides(eyes, 62 + head, 64 + head, 200);
            CALLS.due("side 62", eyes.ends(62, P, P, head, false), 35);
            CALLS.due("side 63", eyes.ends(63, P, P, head, false), 145);
            CALLS.due("side 0", eyes.ends(0, P, P, head, false), 200);
            CALLS.due("side 0, greatest", eyes.ends(0, P, P, head, true), 200);
            CALLS.due("side 1", eyes.ends(1, P, P, head, false), 0);
            CALLS.due("side 61", eyes.ends(61, P, P, head, false), 0);
        }
        ManyEyes later = Worlds.ring();
        later.lens(8, 0);
        later.body(12 * 24 + 22, 1, 0, 90);
        later.body(12 * 24 + 20, -2, 1, 80);
        CALLS.answers(later, "ends(8, 200, 200, 0, true) = 80", "take(0, 200, 200, 0, 1) = 90");
    }

    private static void endsOut() {
        CALLS.says("the least (high false), the greatest. NONE for others.");
        CALLS.changesNothing(Worlds::furnished, "ends(-1, 8, 8, 0, false) = NONE", "ends(64, 8, 8, 0, true) = NONE",
            "ends(MIN, 8, 8, 0, true) = NONE", "ends(MAX, 8, 8, 0, false) = NONE", "ends(0, -1, 8, 0, false) = NONE",
            "ends(0, 96, 8, 0, true) = NONE", "ends(0, MIN, 8, 0, true) = NONE", "ends(0, MAX, 8, 0, false) = NONE",
            "ends(0, 8, -1, 0, true) = NONE", "ends(0, 8, 80, 0, false) = NONE", "ends(0, 8, MIN, 0, false) = NONE",
            "ends(0, 8, MAX, 0, true) = NONE", "ends(0, 8, 8, -1, false) = NONE", "ends(0, 8, 8, 64, true) = NONE",
            "ends(0, 8, 8, MIN, true) = NONE", "ends(0, 8, 8, MAX, false) = NONE", "ends(8, 0, 0, 0, false) = 200",
            "ends(8, 0, 0, 0, true) = 200");
        CALLS.answers(Worlds.furnished(), "ends(8, 95, 79, 48, true) = 44", "ends(63, 95, 79, 63, false) = 0",
            "ends(0, 0, 0, 0, false) = 0");
    }

    private static void bestWidths() {
        CALLS.says("of WIDTHS 0 .. 7 the one by which their TAKES differ most; of like ones the least.");
        ManyEyes eyes = Worlds.ring();
        CALLS.answers(eyes, "width(8, 40, 200, 200, 0) = 0");
        for (int i = 1; i <= 8; i++) {
            eyes.back();
            Worlds.markSides(eyes, 20 - i, 20 - i, 255);
            Worlds.markSides(eyes, 20 + i, 20 + i, 255);
            int best = 0;
            int most = 0;
            for (int width = 0; width <= 7; width++) {
                int take = 2 * 255 * Math.max(0, width + 1 - i) / ((width + 1) * (width + 1));
                if (take > most) {
                    most = take;
                    best = width;
                }
            }
            CALLS.due("marks at " + i, eyes.width(20, 50, P, P, 0), best);
            CALLS.due("the other way round at " + i, eyes.width(50, 20, P, P, 0), best);
        }
        CALLS.due("at 8 none sees them", eyes.width(20, 50, P, P, 0), 0);
        eyes.back();
        Worlds.markSides(eyes, 13, 13, 255);
        CALLS.answers(eyes, "width(20, 50, 200, 200, 0) = 7", "width(20, 20, 200, 200, 0) = 0");
        eyes.back();
        Worlds.markSides(eyes, 14, 14, 30);
        Worlds.markSides(eyes, 26, 26, 30);
        CALLS.answers(eyes, "width(20, 50, 200, 200, 0) = 6", "width(50, 20, 200, 200, 0) = 6");
        Worlds.markSides(eyes, 14, 14, 40);
        Worlds.markSides(eyes, 26, 26, 40);
        CALLS.answers(eyes, "width(20, 50, 200, 200, 0) = 7");
        Worlds.markSides(eyes, 20, 20, 2);
        CALLS.answers(eyes, "width(20, 50, 200, 200, 0) = 0");
        Worlds.markSides(eyes, 50, 50, 1);
        CALLS.answers(eyes, "width(20, 50, 200, 200, 0) = 7");
    }

    private static void widthsGoingRound() {
        CALLS.says("BEST WIDTH for two SIDES by the head (of lenses that aren't there) at a place and HEAD on TICK 0");
        for (int[] row : new int[][] {{0, 0}, {63, 63}, {0, 63}, {63, 1}, {32, 32}}) {
            ManyEyes eyes = Worlds.ring();
            Worlds.markSides(eyes, row[0] + row[1] - 7, row[0] + row[1] - 7, 255);
            CALLS.due("below", eyes.width(row[0], (row[0] + 20) % 64, P, P, row[1]), 7);
            eyes.back();
            Worlds.markSides(eyes, row[0] + row[1] + 7, row[0] + row[1] + 7, 255);
            CALLS.due("above", eyes.width((row[0] + 40) % 64, row[0], P, P, row[1]), 7);
        }
        ManyEyes tick = Worlds.ring();
        tick.body(Worlds.ringCell(13), 1, 0, 255);
        CALLS.answers(tick, "width(20, 50, 200, 200, 0) = 7", "lens(20, 0) = 0", "width(20, 50, 200, 200, 0) = 7");
    }

    private static void widthsOut() {
        CALLS.says("BEST WIDTH. NONE for others.");
        CALLS.changesNothing(Worlds::furnished, "width(-1, 5, 8, 8, 0) = NONE", "width(64, 5, 8, 8, 0) = NONE",
            "width(MIN, 5, 8, 8, 0) = NONE", "width(MAX, 5, 8, 8, 0) = NONE", "width(5, -1, 8, 8, 0) = NONE",
            "width(5, 64, 8, 8, 0) = NONE", "width(5, MIN, 8, 8, 0) = NONE", "width(5, MAX, 8, 8, 0) = NONE",
            "width(8, 5, -1, 8, 0) = NONE", "width(8, 5, 96, 8, 0) = NONE", "width(8, 5, MIN, 8, 0) = NONE",
            "width(8, 5, MAX, 8, 0) = NONE", "width(8, 5, 8, -1, 0) = NONE", "width(8, 5, 8, 80, 0) = NONE",
            "width(8, 5, 8, MIN, 0) = NONE", "width(8, 5, 8, MAX, 0) = NONE", "width(8, 5, 8, 8, -1) = NONE",
            "width(8, 5, 8, 8, 64) = NONE", "width(8, 5, 8, 8, MIN) = NONE", "width(8, 5, 8, 8, MAX) = NONE",
            "width(8, 40, 0, 0, 0) = 0", "width(0, 63, 95, 79, 63) = 7", "width(63, 0, 95, 79, 0) = 0");
    }

    /** Body 0 of the furnished one is in cell 10, which is (4, 1). */
    private static void movedToTheEdges() {
        CALLS.says("a BODY moved by x and y (to a CELL in THE WORLD)");
        CALLS.changesNothing(Worlds::furnished, "same(0, -5, 0, 8, 8, 32) = NONE", "same(0, 2, 0, 8, 8, 32) = NONE",
            "same(0, 0, -2, 8, 8, 32) = NONE", "same(0, 0, 4, 8, 8, 32) = NONE", "same(0, MIN, 0, 8, 8, 32) = NONE",
            "same(0, MAX, 0, 8, 8, 32) = NONE", "same(0, 0, MIN, 8, 8, 32) = NONE", "same(0, 0, MAX, 8, 8, 32) = NONE",
            "same(0, MAX, MAX, 8, 8, 32) = NONE", "same(0, -5, 4, 8, 8, 32) = NONE", "same(0, -4, 4, 8, 8, 32) = NONE",
            "same(0, 2, 3, 8, 8, 32) = NONE", "same(0, 1, 0, 8, 8, 40) = 1", "same(0, 0, 3, 8, 8, 40) = 1",
            "same(0, 1, 3, 8, 8, 40) = 1", "same(0, 0, -1, 8, 8, 40) = 1");
        ManyEyes eyes = Worlds.fresh();
        eyes.body(14, 2, 2, 9);
        for (int moveX = -4; moveX <= 5; moveX++) {
            for (int moveY = -4; moveY <= 4; moveY++) {
                boolean in = moveX >= -2 && moveX <= 3 && moveY >= -2 && moveY <= 2;
                CALLS.due("by " + moveX + ", " + moveY, eyes.same(0, moveX, moveY, 8, 8, 0), in ? 1 : -1);
            }
        }
        CALLS.answers(eyes, "markOf(14, 0) = 9", "lens(8, 0) = 0", "same(0, -1, -2, 8, 8, 0) = 0",
            "same(0, 0, 0, 8, 8, 0) = 1", "same(0, 3, -2, 8, 8, 0) = 0", "same(0, -2, -2, 8, 8, 0) = 1",
            "same(0, 3, 2, 8, 8, 0) = 1", "same(0, -2, 2, 8, 8, 0) = 1");
    }

    private static void notToldFromWhereItIs() {
        CALLS.says("is not told from where it is, if from a place with a HEAD each LENS has the same TAKE on TICK 0.");
        ManyEyes eyes = Worlds.ring();
        eyes.body(Worlds.ringCell(20), 0, 0, 63);
        int away = 12 * 24 + 12 - Worlds.ringCell(20);
        int moveX = 12 - Worlds.ringCell(20) % 24;
        int moveY = 12 - Worlds.ringCell(20) / 24;
        CALLS.due("to the place's own cell", moveY * 24 + moveX, away);
        CALLS.due("without a lens", eyes.same(0, moveX, moveY, P, P, 0), 1);
        eyes.lens(27, 7);
        CALLS.due("63 / 64 is nothing", eyes.same(0, moveX, moveY, P, P, 0), 1);
        eyes.lens(28, 7);
        CALLS.due("out of its sight", eyes.same(0, moveX, moveY, P, P, 0), 1);
        eyes.lens(26, 7);
        CALLS.due("2 * 63 / 64 is 1: the last of three lenses tells it", eyes.same(0, moveX, moveY, P, P, 0), 0);
        CALLS.due("not by another head", eyes.same(0, moveX, moveY, P, P, 32), 1);
        CALLS.due("not from another place", eyes.same(0, moveX, moveY, 8, 8, 0), 1);
        ManyEyes ahead = Worlds.ring();
        ahead.body(Worlds.ringCell(0), 0, 0, 63);
        CALLS.answers(ahead, "ray(200, 200, 0, 0, false) = 63", "same(0, -3, 0, 200, 200, 0) = 1", "lens(32, 7) = 0",
            "same(0, -3, 0, 200, 200, 0) = 1", "lens(1, 0) = 1", "same(0, -3, 0, 200, 200, 0) = 1", "lens(0, 0) = 2",
            "same(0, -3, 0, 200, 200, 0) = 0", "back() = 0", "body(25, 0, 0, 63) = 0", "lens(48, 0) = 0",
            "ray(200, 200, 48, 0, false) = 63", "same(0, 22, 0, 200, 200, 0) = 0", "same(0, 1, 1, 200, 200, 0) = 1");
        ManyEyes marked = Worlds.ring();
        Worlds.markSides(marked, 0, 63, 9);
        CALLS.answers(marked, "body(25, 0, 0, 8) = 0", "same(0, 9, 0, 200, 200, 0) = 1", "lens(30, 3) = 0",
            "same(0, 9, 0, 200, 200, 0) = 1", "same(0, 9, 0, 200, 200, 18) = 0");
        ManyEyes first = Worlds.ring();
        first.lens(20, 0);
        first.lens(30, 0);
        first.body(Worlds.ringCell(20), 0, 0, 63);
        CALLS.due("the first of two lenses tells it", first.same(0, moveX, moveY, P, P, 0), 0);
        CALLS.due("the place by the head goes round", first.same(0, moveX, moveY, P, P, 63), 1);
    }

    private static void sameOut() {
        CALLS.says("SAME (1, 0). NONE for others, or if its CELL on TICK 0 isn't in THE WORLD.");
        CALLS.changesNothing(Worlds::furnished, "same(-1, 0, 0, 8, 8, 0) = NONE", "same(3, 0, 0, 8, 8, 0) = NONE",
            "same(MIN, 0, 0, 8, 8, 0) = NONE", "same(MAX, 0, 0, 8, 8, 0) = NONE", "same(0, 0, 0, -1, 8, 0) = NONE",
            "same(0, 0, 0, 96, 8, 0) = NONE", "same(0, 0, 0, MIN, 8, 0) = NONE", "same(0, 0, 0, MAX, 8, 0) = NONE",
            "same(0, 0, 0, 8, -1, 0) = NONE", "same(0, 0, 0, 8, 80, 0) = NONE", "same(0, 0, 0, 8, MIN, 0) = NONE",
            "same(0, 0, 0, 8, MAX, 0) = NONE", "same(0, 0, 0, 8, 8, -1) = NONE", "same(0, 0, 0, 8, 8, 64) = NONE",
            "same(0, 0, 0, 8, 8, MIN) = NONE", "same(0, 0, 0, 8, 8, MAX) = NONE", "same(0, 0, 0, 0, 0, 0) = 1",
            "same(2, 0, 0, 95, 79, 63) = 1", "same(2, -5, 0, 8, 8, 0) = 1", "same(2, -4, 0, 8, 8, 0) = 0");
    }
}
