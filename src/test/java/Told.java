/**
 * All that an object tells of itself, as one text: to find whether two objects are alike in everything.
 * The object is used up by it: what can't be asked (the tape, the image) is told by what comes of it.
 */
final class Told {
    private static final int NO_TICK = -10000000;
    private static final int[] HEADS = {0, 8, 21, 40, 63};

    private final ManyEyes eyes;
    private final StringBuilder text = new StringBuilder();

    private Told(ManyEyes eyes) {
        this.eyes = eyes;
    }

    static String of(ManyEyes eyes) {
        Told told = new Told(eyes);
        told.all();
        told.tape();
        told.add("back", eyes.back());
        told.all();
        told.tape();
        told.room();
        return told.text.toString();
    }

    private void add(String what, int value) {
        text.append(what).append(' ').append(value).append('\n');
    }

    private void all() {
        for (int what = 0; what <= 8; what++) {
            add("about", eyes.about(what));
        }
        add("fault", eyes.fault(0));
        add("place", eyes.fault(1));
        latest();
        marks();
        takes();
        keeping();
        flights();
    }

    private void latest() {
        for (int what = 0; what <= 5; what++) {
            add("flown", eyes.flown(what));
        }
        for (int t = 0; t < 60 && eyes.tick(t, 0) != NO_TICK; t++) {
            for (int what = 0; what < 5; what++) {
                add("tick", eyes.tick(t, what));
            }
            for (int i = 0; i < 17; i++) {
                add("take", eyes.tick(t, 100 + i));
                add("pair", eyes.tick(t, 200 + i));
            }
        }
    }

    private void marks() {
        for (int cell = 0; cell < eyes.about(0) * eyes.about(1); cell++) {
            for (int tick = 0; tick < 4; tick++) {
                add("mark", eyes.markOf(cell, tick));
            }
        }
        for (int side = 0; side < 64; side++) {
            add("covered", eyes.covered(side));
            add("ray", eyes.ray(40, 40, side, 0, false));
        }
    }

    private void takes() {
        for (int head : HEADS) {
            for (int lens = 0; lens < eyes.about(3); lens++) {
                add("taken", eyes.take(lens, 40, 40, head, 0));
                add("taken", eyes.take(lens, 9, 55, head, 1));
            }
        }
    }

    private void keeping() {
        add("all kept", eyes.kept(-1));
        for (int rule = 0; rule < eyes.about(5); rule++) {
            add("kept", eyes.kept(rule));
        }
        for (int row = 0; row < eyes.about(1); row++) {
            add("parts", eyes.parts(row, 0));
            add("parts", eyes.parts(row, 2));
        }
    }

    private void flights() {
        for (int rule = 0; rule < eyes.about(5); rule++) {
            for (int head : HEADS) {
                for (int cell = 0; cell < 4; cell++) {
                    add("fly", eyes.fly(rule, 16 * cell + 8, 16 * cell + 8, head, 12, head == 8 ? 6 : 0));
                    add("x", eyes.flown(0));
                    add("y", eyes.flown(1));
                    add("head", eyes.flown(2));
                    add("over", eyes.flown(5));
                }
            }
        }
    }

    private void tape() {
        add("bytes", eyes.about(7));
        add("rule", eyes.rule());
        add("fault", eyes.fault(0));
        add("place", eyes.fault(1));
        add("bytes", eyes.about(7));
        flights();
    }

    private void room() {
        for (int flight = 0; flight < 6; flight++) {
            add("turns", eyes.turned(flight, 0));
        }
        add("body", eyes.body(0, 0, 0, 1));
        add("lens", eyes.lens(0, 0));
        add("pair", eyes.pair(0, 1, 1));
        add("read", eyes.read(0, 0, 0));
        eyes.end(0);
        add("rule", eyes.rule());
    }
}
