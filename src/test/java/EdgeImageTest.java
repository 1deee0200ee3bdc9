/** The edges of promises 25 and 26, sentence by sentence. */
public final class EdgeImageTest {
    private static final Check CHECK = new Check("EdgeImageTest");
    private static final Calls CALLS = new Calls(CHECK);

    public static void main(String[] args) {
        howManyRules();
        imagesOfAllKinds();
        itStays();
        theLatestFlightToo();
        noFlightYet();
        butTheTape();
        butTheFault();
        roomAgain();
        CHECK.end();
    }

    private static void howManyRules() {
        CALLS.says("THE IMAGE is as all is now (the latest FLIGHT, too): how many RULES there are.");
        ManyEyes eyes = new ManyEyes(4, 4);
        CALLS.answers(eyes, "image() = 0", "back() = 0");
        for (int i = 1; i <= 8; i++) {
            Check.rule(eyes, "turn " + i + ";");
            CALLS.due("back from " + i, eyes.back(), i - 1);
            Check.rule(eyes, "turn " + i + ";");
            CALLS.due("image of " + i, eyes.image(), i);
            CALLS.due("back to " + i, eyes.back(), i);
        }
        CALLS.answers(eyes, "fly(7, 8, 8, 8, 1, 0) = 1", "tick(0, 0) = 8", "fly(0, 8, 8, 8, 1, 0) = 1", "tick(0, 0) = 1");
    }

    /** Taken and gone back to at once, an image changes nothing, but that it is the image. */
    private static void imagesOfAllKinds() {
        CALLS.says("AN IMAGE: all as it is, but the tape and the latest FAULT. BACK: all is so again.");
        for (int kind = 0; kind < 3; kind++) {
            ManyEyes eyes = of(kind);
            ManyEyes other = of(kind);
            CALLS.due("image", eyes.image(), eyes.about(5));
            other.image();
            spoil(eyes);
            CALLS.due("back", eyes.back(), other.about(5));
            CALLS.due("kind " + kind + " as it was", Told.of(eyes).equals(Told.of(other)), true);
        }
    }

    private static ManyEyes of(int kind) {
        return kind == 0 ? Worlds.fresh() : kind == 1 ? Worlds.furnished() : Worlds.full();
    }

    /** All that can be changed, but the tape and the fault. */
    private static void spoil(ManyEyes eyes) {
        for (int cell = 0; cell < 30; cell++) {
            eyes.mark(cell, cell % 2 == 0 ? 9 : 0);
        }
        eyes.body(7, 1, 1, 3);
        eyes.lens(1, 1);
        eyes.lens(2, 2);
        eyes.pair(0, 1, 3);
        eyes.read(9, 9, 9);
        for (int flight = 0; flight < 6; flight++) {
            eyes.turned(flight, 2);
        }
        eyes.fly(0, 24, 8, 3, 9, 5);
        eyes.fly(0, 24, 24, 3, 9, 5);
    }

    private static void itStays() {
        CALLS.says("BACK to THE IMAGE (it stays): how many RULES there are.");
        ManyEyes eyes = new ManyEyes(4, 4);
        Check.rule(eyes, "go 1;");
        CALLS.answers(eyes, "mark(3, 7) = true", "image() = 1", "back() = 1", "mark(3, 8) = true", "back() = 1",
            "markOf(3, 0) = 7", "mark(3, 9) = true", "lens(0, 0) = 0", "back() = 1", "markOf(3, 0) = 7", "about(3) = 0",
            "back() = 1", "markOf(3, 0) = 7", "mark(3, 5) = true", "image() = 1", "mark(3, 6) = true", "back() = 1",
            "markOf(3, 0) = 5", "read(8, 8, 8) = 0", "turned(0, 1) = 1", "image() = 1", "turned(0, 1) = 2", "back() = 1",
            "turned(0, 1) = 2", "back() = 1", "turned(0, 0) = 2", "body(9, 0, 0, 1) = 0", "image() = 1",
            "same(0, 1, 1, 8, 8, 0) = 1", "markOf(9, 0) = 1", "back() = 1", "markOf(9, 0) = 1", "about(2) = 1");
    }

    private static void theLatestFlightToo() {
        CALLS.says("(the latest FLIGHT, too)");
        ManyEyes eyes = new ManyEyes(4, 4);
        Check.rule(eyes, "go 8;turn 9;");
        Check.rule(eyes, "rest tick=2;turn -1;");
        eyes.mark(3, 9);
        eyes.lens(0, 0);
        eyes.lens(8, 0);
        eyes.pair(0, 1, 1);
        CALLS.answers(eyes, "fly(1, 8, 8, 8, 60, 4) = 2", "image() = 2", "fly(0, 40, 8, 0, 60, 0) = 1", "flown(3) = 1",
            "back() = 2", "flown(0) = 8", "flown(1) = 8", "flown(2) = 6", "flown(3) = 0", "flown(4) = 1", "flown(5) = 0",
            "tick(0, 0) = -1", "tick(1, 4) = 7", "tick(2, 0) = NOTICK", "tick(0, 100) = 9", "tick(1, 101) = 0",
            "tick(1, 200) = 0", "tick(1, 201) = NOTICK", "tick(1, 102) = NOTICK");
    }

    private static void noFlightYet() {
        CALLS.says("BACK: all is so again.");
        ManyEyes eyes = new ManyEyes(4, 4);
        Check.rule(eyes, "go 1;");
        CALLS.answers(eyes, "image() = 1", "fly(0, 8, 8, 8, 60, 0) = 56", "flown(3) = 1", "back() = 1", "flown(0) = NONE",
            "flown(3) = NONE", "tick(0, 0) = NOTICK", "fly(0, 8, 8, 8, 1, 0) = 1", "flown(3) = 0", "tick(1, 0) = NOTICK");
    }

    private static void butTheTape() {
        CALLS.says("but the tape and the latest FAULT");
        ManyEyes eyes = new ManyEyes(4, 4);
        Check.type(eyes, "turn 1;");
        CALLS.answers(eyes, "image() = 0", "about(7) = 7", "rule() = 0", "about(7) = 0", "back() = 0", "about(7) = 0");
        Check.type(eyes, "turn 2;go 3;");
        CALLS.answers(eyes, "back() = 0", "about(7) = 12", "end(7) = 7", "back() = 0", "about(7) = 7", "rule() = 0",
            "fly(0, 8, 8, 8, 1, 0) = 1", "tick(0, 0) = 2", "tick(0, 1) = 0");
        ManyEyes empty = new ManyEyes(4, 4);
        Check.type(empty, " ".repeat(300));
        CALLS.answers(empty, "back() = 0", "about(7) = 300", "feed(0, 0, 0, 0, 0) = NONE", "rule() = 0", "fault(0) = 0");
    }

    private static void butTheFault() {
        CALLS.says("all as it is, but the tape and the latest FAULT");
        ManyEyes eyes = new ManyEyes(4, 4);
        CALLS.due("a fault", Check.rule(eyes, "go A;"), -1);
        CALLS.answers(eyes, "back() = 0", "fault(0) = 5", "fault(1) = 3", "image() = 0");
        CALLS.due("another", Check.rule(eyes, "go 10000;go"), -1);
        CALLS.answers(eyes, "fault(0) = 2", "back() = 0", "fault(0) = 2", "fault(1) = 3");
        CALLS.due("none", Check.rule(eyes, "go 1;"), 0);
        CALLS.answers(eyes, "back() = 0", "fault(0) = 0", "fault(1) = NONE");
        ManyEyes first = new ManyEyes(4, 4);
        CALLS.answers(first, "image() = 0", "rule() = 0", "back() = 0", "fault(0) = 0", "about(5) = 0");
    }

    private static void roomAgain() {
        CALLS.says("how many RULES there are.");
        ManyEyes eyes = Worlds.full();
        CALLS.answers(eyes, "back() = 0", "body(0, 0, 0, 1) = 0", "lens(0, 0) = 0", "lens(0, 0) = 1", "pair(0, 1, 1) = 0",
            "read(8, 8, 8) = 0", "turned(0, 0) = 1", "rule() = 0", "about(7) = 0", "about(8) = 0", "kept(0) = 0");
    }
}
