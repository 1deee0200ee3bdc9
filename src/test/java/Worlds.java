/** Objects to begin with: new, furnished with a few of each, full, and with a ring of marks. */
final class Worlds {
    /** Where the ring is seen from. */
    static final int RING_PLACE = 200;
    private static final int RING_FAR = 11;
    private static final int RING_SIZE = 24;

    private Worlds() {
    }

    static ManyEyes fresh() {
        return new ManyEyes(6, 5);
    }

    /** 3 bodies, 4 lenses, 3 pairs, 3 rules, 2 read flights, 12 bytes on the tape, 5 ticks flown; less in its image. */
    static ManyEyes furnished() {
        ManyEyes eyes = fresh();
        eyes.mark(3, 200);
        eyes.mark(26, 90);
        eyes.mark(29, 255);
        eyes.body(10, -1, 1, 60);
        eyes.lens(0, 2);
        Check.rule(eyes, "turn 1;go 2;");
        eyes.read(8, 8, 8);
        eyes.turned(0, 1);
        eyes.fly(0, 8, 8, 8, 2, 0);
        eyes.image();
        eyes.mark(17, 44);
        eyes.body(20, 2, -1, 70);
        eyes.body(5, 0, 0, 33);
        eyes.lens(8, 0);
        eyes.lens(24, 7);
        eyes.lens(63, 1);
        eyes.pair(0, 1, 1);
        eyes.pair(2, 3, 2);
        eyes.pair(3, 0, 8);
        Check.rule(eyes, "turn lens 0/30-pair 0/999;go 3;");
        Check.rule(eyes, "rest lens 1>250;go 5;turn tick-2;");
        eyes.read(40, 40, 16);
        eyes.turned(1, 1);
        eyes.turned(1, 1);
        Check.rule(eyes, "go A;");
        eyes.fly(1, 8, 40, 5, 5, 8);
        Check.type(eyes, "turn 3;go 2;");
        return eyes;
    }

    /** As many as there may be of each; none in its image, so that the tape can be read behind back(). */
    static ManyEyes full() {
        ManyEyes eyes = fresh();
        for (int i = 0; i < 6; i++) {
            eyes.body(24 + i, 0, -(i % 3), 40 * i + 1);
            eyes.read(8, 8, 8 * i);
            for (int turn = 0; turn < 20; turn++) {
                eyes.turned(i, 1);
            }
        }
        for (int i = 0; i < 16; i++) {
            eyes.lens(4 * i, i % 8);
        }
        for (int i = 0; i < 16; i++) {
            eyes.pair(i, (i + 3) % 16, 1 + i % 8);
        }
        for (int i = 0; i < 8; i++) {
            Check.rule(eyes, i == 0 ? "turn 1;" : "turn " + i + "-lens " + i + "/9;go tick+pair " + i + "/9;");
        }
        for (int cell = 12; cell < 24; cell += 5) {
            eyes.mark(cell, 255 - cell);
        }
        eyes.fly(0, 8, 8, 8, 60, 0);
        Check.type(eyes, " ".repeat(293) + "turn 7;");
        return eyes;
    }

    /** A cell that the ray to this side alone, of all from the ring's place, comes to (as its 11th). */
    static int ringCell(int side) {
        int[] way = Model.way(side);
        return (RING_PLACE + RING_FAR * way[1]) / 16 * RING_SIZE + (RING_PLACE + RING_FAR * way[0]) / 16;
    }

    static ManyEyes ring() {
        return new ManyEyes(RING_SIZE, RING_SIZE);
    }

    static void markSides(ManyEyes eyes, int from, int to, int mark) {
        for (int side = from; side <= to; side++) {
            eyes.mark(ringCell(Math.floorMod(side, 64)), mark);
        }
    }
}
