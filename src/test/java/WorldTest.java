/** Promises 1 to 4 and 27: a new object, mark, body, markOf, about. */
public final class WorldTest {
    private static final Check CHECK = new Check("WorldTest");

    public static void main(String[] args) {
        newObject();
        marks();
        bodies();
        marksOnTicks();
        bodiesThatLeave();
        about();
        CHECK.end();
    }

    private static void newObject() {
        int[][] sizes = {{4, 24, 4, 24}, {3, 25, 4, 24}, {Integer.MIN_VALUE, Integer.MAX_VALUE, 4, 24},
            {25, 3, 24, 4}, {7, 9, 7, 9}, {0, -1, 4, 4}};
        for (int[] size : sizes) {
            ManyEyes eyes = new ManyEyes(size[0], size[1]);
            CHECK.due("w", eyes.about(0), size[2]);
            CHECK.due("h", eyes.about(1), size[3]);
            for (int what = 2; what <= 8; what++) {
                CHECK.due("about new " + what, eyes.about(what), 0);
            }
            int cells = size[2] * size[3];
            for (int cell = 0; cell < cells; cell++) {
                CHECK.due("markOf new", eyes.markOf(cell, 0), 0);
            }
            CHECK.due("no cell behind the last", eyes.markOf(cells, 0), -1);
            CHECK.due("fault", eyes.fault(0), -1);
            CHECK.due("flown", eyes.flown(0), -1);
            CHECK.due("mark", eyes.mark(1, 7), true);
            CHECK.due("back to the new one", eyes.back(), 0);
            CHECK.due("the mark is gone", eyes.markOf(1, 0), 0);
        }
        CHECK.due("NONE", ManyEyes.NONE, -1);
    }

    private static void marks() {
        ManyEyes eyes = new ManyEyes(5, 4);
        CHECK.due("mark first", eyes.mark(0, 1), true);
        CHECK.due("mark last", eyes.mark(19, 255), true);
        CHECK.due("cell below", eyes.mark(-1, 1), false);
        CHECK.due("cell above", eyes.mark(20, 1), false);
        CHECK.due("mark below", eyes.mark(2, -1), false);
        CHECK.due("mark above", eyes.mark(2, 256), false);
        CHECK.due("cell far", eyes.mark(Integer.MAX_VALUE, 1), false);
        CHECK.due("first", eyes.markOf(0, 0), 1);
        CHECK.due("last", eyes.markOf(19, 999), 255);
        CHECK.due("none in 2", eyes.markOf(2, 0), 0);
        CHECK.due("two cells", eyes.about(8), 2);
        CHECK.due("mark anew", eyes.mark(0, 9), true);
        CHECK.due("anew", eyes.markOf(0, 0), 9);
        CHECK.due("empty again", eyes.mark(0, 0), true);
        CHECK.due("emptied", eyes.markOf(0, 0), 0);
        CHECK.due("one cell", eyes.about(8), 1);
    }

    private static void bodies() {
        ManyEyes eyes = new ManyEyes(6, 5);
        CHECK.due("cell below", eyes.body(-1, 0, 0, 1), -1);
        CHECK.due("cell above", eyes.body(30, 0, 0, 1), -1);
        CHECK.due("way x below", eyes.body(0, -3, 0, 1), -1);
        CHECK.due("way x above", eyes.body(0, 3, 0, 1), -1);
        CHECK.due("way y below", eyes.body(0, 0, -3, 1), -1);
        CHECK.due("way y above", eyes.body(0, 0, 3, 1), -1);
        CHECK.due("mark below", eyes.body(0, 0, 0, 0), -1);
        CHECK.due("mark above", eyes.body(0, 0, 0, 256), -1);
        CHECK.due("none yet", eyes.about(2), 0);
        for (int i = 0; i < 6; i++) {
            CHECK.due("body " + i, eyes.body(29 - i, i % 2 == 0 ? 2 : -2, i % 2 == 0 ? -2 : 2, i % 2 == 0 ? 1 : 255), i);
        }
        CHECK.due("the seventh", eyes.body(0, 0, 0, 1), -1);
        CHECK.due("six", eyes.about(2), 6);
        CHECK.due("bodies are no own marks", eyes.about(8), 0);
    }

    private static void marksOnTicks() {
        ManyEyes eyes = new ManyEyes(6, 5);
        eyes.body(7, 2, 1, 50);
        CHECK.due("tick 0", eyes.markOf(7, 0), 50);
        CHECK.due("left on tick 1", eyes.markOf(7, 1), 0);
        CHECK.due("tick 1", eyes.markOf(15, 1), 50);
        CHECK.due("tick 2", eyes.markOf(23, 2), 50);
        for (int cell = 0; cell < 30; cell++) {
            CHECK.due("out by x on tick 3", eyes.markOf(cell, 3), 0);
        }
        eyes.body(7, 0, 0, 60);
        CHECK.due("the lowest body", eyes.markOf(7, 0), 50);
        CHECK.due("the next stays", eyes.markOf(7, 1), 60);
        CHECK.due("on the last tick", eyes.markOf(7, 999), 60);
        eyes.mark(7, 70);
        CHECK.due("a body before the own", eyes.markOf(7, 5), 60);
        eyes.body(29, -2, -2, 80);
        CHECK.due("back by both ways", eyes.markOf(15, 1), 50);
        CHECK.due("back on tick 2", eyes.markOf(1, 2), 80);
        CHECK.due("tick below", eyes.markOf(7, -1), -1);
        CHECK.due("tick above", eyes.markOf(7, 1000), -1);
        CHECK.due("cell below", eyes.markOf(-1, 0), -1);
        CHECK.due("cell above", eyes.markOf(30, 0), -1);
    }

    /** From the middle of five by five, all ways: on no other cell on any tick than the one that is due. */
    private static void bodiesThatLeave() {
        for (int wayX = -2; wayX <= 2; wayX++) {
            for (int wayY = -2; wayY <= 2; wayY++) {
                ManyEyes eyes = new ManyEyes(5, 5);
                CHECK.due("body", eyes.body(12, wayX, wayY, 8), 0);
                for (int tick = 0; tick < 4; tick++) {
                    for (int cell = 0; cell < 25; cell++) {
                        boolean there = cell % 5 == 2 + tick * wayX && cell / 5 == 2 + tick * wayY;
                        CHECK.due("way " + wayX + ", " + wayY, eyes.markOf(cell, tick), there ? 8 : 0);
                    }
                }
            }
        }
    }

    private static void about() {
        ManyEyes eyes = new ManyEyes(6, 5);
        eyes.mark(3, 1);
        eyes.mark(4, 1);
        eyes.body(0, 0, 0, 1);
        eyes.lens(0, 0);
        eyes.lens(1, 0);
        eyes.lens(2, 0);
        eyes.pair(0, 1, 1);
        eyes.pair(0, 2, 1);
        CHECK.due("rule", Check.rule(eyes, "go 1;"), 0);
        eyes.read(8, 8, 0);
        eyes.read(8, 8, 1);
        eyes.read(8, 8, 2);
        eyes.read(8, 8, 3);
        eyes.feed(0, 0, 0, 0, 0);
        int[] want = {6, 5, 1, 3, 2, 1, 4, 20, 2};
        for (int what = 0; what < want.length; what++) {
            CHECK.due("about " + what, eyes.about(what), want[what]);
        }
        CHECK.due("about -1", eyes.about(-1), -1);
        CHECK.due("about 9", eyes.about(9), -1);
        CHECK.due("about far", eyes.about(Integer.MIN_VALUE), -1);
    }
}
