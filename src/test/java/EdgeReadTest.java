/** The edges of promises 21 to 24, sentence by sentence. */
public final class EdgeReadTest {
    private static final Check CHECK = new Check("EdgeReadTest");
    private static final Calls CALLS = new Calls(CHECK);
    private static final int NONE = ManyEyes.NONE;

    public static void main(String[] args) {
        readsWithin();
        readsOut();
        readsInCellsThatAreNotEmpty();
        turnsWithin();
        turnsOut();
        keptWithoutFlightsOrTurns();
        keptByEach();
        keptOfAllTurns();
        restsByTheLastTurn();
        hitsByTheLastTurn();
        howManyAreKept();
        keptOut();
        partedByTheMost();
        partedFirst();
        partedInEmptyCells();
        partedAtTheEdges();
        partedWhoRests();
        partedByTheKept();
        partedByNone();
        partsOut();
        CHECK.end();
    }

    private static ManyEyes with(String... rules) {
        ManyEyes eyes = new ManyEyes(4, 4);
        for (int i = 0; i < rules.length; i++) {
            CALLS.due("rule " + rules[i], Check.rule(eyes, rules[i]), i);
        }
        return eyes;
    }

    private static void readsWithin() {
        CALLS.says("READ FLIGHTS 0 .. 5: a START and TURNS");
        CALLS.answers(Worlds.fresh(), "about(6) = 0", "read(0, 0, 0) = 0", "read(95, 79, 63) = 1", "read(0, 79, 63) = 2",
            "read(95, 0, 0) = 3", "read(95, 0, 0) = 4", "about(6) = 5", "read(8, 8, 8) = 5", "about(6) = 6",
            "read(8, 8, 8) = NONE", "about(6) = 6", "turned(5, 0) = 1", "turned(6, 0) = NONE");
    }

    private static void readsOut() {
        CALLS.says("its number. NONE for others, or if there are 6.");
        CALLS.changesNothing(Worlds::furnished, "read(-1, 8, 8) = NONE", "read(96, 8, 8) = NONE", "read(MIN, 8, 8) = NONE",
            "read(MAX, 8, 8) = NONE", "read(8, -1, 8) = NONE", "read(8, 80, 8) = NONE", "read(8, MIN, 8) = NONE",
            "read(8, MAX, 8) = NONE", "read(8, 8, -1) = NONE", "read(8, 8, 64) = NONE", "read(8, 8, MIN) = NONE",
            "read(8, 8, MAX) = NONE");
        CALLS.changesNothing(Worlds::full, "read(8, 8, 8) = NONE", "read(0, 0, 0) = NONE");
        CALLS.answers(Worlds.furnished(), "read(8, 8, 8) = 2");
    }

    private static void readsInCellsThatAreNotEmpty() {
        CALLS.says("(also in a CELL that isn't empty: then no RULE is KEPT by it)");
        ManyEyes eyes = with("", "rest 0=0;");
        eyes.mark(5, 1);
        CALLS.answers(eyes, "kept(NONE) = 2", "read(15, 15, 0) = 0", "kept(NONE) = 2", "read(16, 16, 0) = 1",
            "kept(NONE) = 0", "kept(0) = 0", "kept(1) = 0", "mark(5, 0) = true", "kept(NONE) = 2", "body(5, 1, 0, 9) = 0",
            "kept(NONE) = 0", "kept(0) = 0", "parts(0, 0) = NONE");
        ManyEyes comes = with("");
        comes.body(6, -1, 0, 9);
        CALLS.answers(comes, "read(24, 24, 0) = 0", "kept(0) = 1", "turned(0, 0) = 1", "kept(0) = 1", "turned(0, 0) = 2",
            "kept(0) = 0");
    }

    private static void turnsWithin() {
        CALLS.says("A TURN (-8 .. 8) more: how many it has.");
        for (int turn = -8; turn <= 8; turn++) {
            ManyEyes eyes = with("turn " + turn + ";");
            eyes.read(8, 8, 8);
            CALLS.due("turn " + turn, eyes.turned(0, turn), 1);
            CALLS.due("has it", eyes.kept(0), 1);
            CALLS.due("and another", eyes.turned(0, turn == 8 ? -8 : turn + 1), 2);
            CALLS.due("hasn't that", eyes.kept(0), 0);
        }
    }

    private static void turnsOut() {
        CALLS.says("NONE for others, or if it has 20.");
        CALLS.changesNothing(Worlds::furnished, "turned(0, -9) = NONE", "turned(0, 9) = NONE", "turned(0, MIN) = NONE",
            "turned(0, MAX) = NONE", "turned(-1, 0) = NONE", "turned(2, 0) = NONE", "turned(MIN, 0) = NONE",
            "turned(MAX, 0) = NONE");
        CALLS.changesNothing(Worlds::full, "turned(0, 1) = NONE", "turned(5, 1) = NONE", "turned(5, -8) = NONE",
            "turned(6, 1) = NONE");
        CALLS.changesNothing(Worlds::fresh, "turned(0, 0) = NONE");
        ManyEyes eyes = Worlds.fresh();
        eyes.read(8, 8, 8);
        eyes.read(8, 8, 8);
        for (int i = 1; i <= 20; i++) {
            CALLS.due("turn " + i, eyes.turned(0, i % 17 - 8), i);
        }
        CALLS.answers(eyes, "turned(0, 0) = NONE", "turned(1, 0) = 1", "turned(0, 0) = NONE", "turned(1, 0) = 2");
    }

    private static void keptWithoutFlightsOrTurns() {
        CALLS.says("A RULE is KEPT, if by each");
        ManyEyes eyes = with("", "rest 0=0;", "go 16;", "turn 5;");
        CALLS.answers(eyes, "kept(NONE) = 4", "kept(0) = 1", "kept(1) = 1", "kept(2) = 1", "kept(3) = 1",
            "read(56, 8, 8) = 0", "kept(NONE) = 4", "kept(1) = 1", "kept(2) = 1", "turned(0, 0) = 1", "kept(NONE) = 2",
            "kept(0) = 1", "kept(1) = 0", "kept(2) = 1", "kept(3) = 0");
    }

    private static void keptByEach() {
        CALLS.says("if by each it doesn't rest or hit ahead of the last TURN's TICK, and has all these TURNS.");
        for (int odd = 0; odd < 6; odd++) {
            ManyEyes eyes = with("turn 3;");
            for (int i = 0; i < 6; i++) {
                eyes.read(8, 8, i);
                eyes.turned(i, 3);
            }
            CALLS.due("by all", eyes.kept(0), 1);
            CALLS.due("a turn more", eyes.turned(odd, 2), 2);
            CALLS.due("not by flight " + odd, eyes.kept(0), 0);
        }
    }

    private static void keptOfAllTurns() {
        CALLS.says("TURNS (of TICKS 0, 1, ..; 20 at most)");
        for (int odd = 0; odd <= 20; odd++) {
            ManyEyes eyes = with("turn tick-8;");
            eyes.read(8, 8, 8);
            for (int t = 0; t < 20; t++) {
                eyes.turned(0, Math.min(8, t - 8) - (t == odd ? 1 : 0) + (t == odd && t == 0 ? 2 : 0));
            }
            CALLS.due("unlike on tick " + odd, eyes.kept(0), odd == 20 ? 1 : 0);
        }
    }

    private static void restsByTheLastTurn() {
        CALLS.says("it doesn't rest or hit ahead of the last TURN's TICK");
        for (int rest = 0; rest < 6; rest++) {
            ManyEyes eyes = with("rest tick=" + rest + ";");
            eyes.read(8, 8, 8);
            for (int turns = 0; turns < 6; turns++) {
                CALLS.due("rests on " + rest + ", last turn on " + (turns - 1), eyes.kept(0), turns <= rest ? 1 : 0);
                eyes.turned(0, 0);
            }
        }
        ManyEyes late = with("rest tick=19;", "rest tick=20;");
        late.read(8, 8, 8);
        for (int t = 0; t < 20; t++) {
            late.turned(0, 0);
        }
        CALLS.answers(late, "kept(0) = 0", "kept(1) = 1", "kept(NONE) = 1");
    }

    /** A hit on a tick is that of its own go: the turn of that tick was turned. */
    private static void hitsByTheLastTurn() {
        CALLS.says("or hit ahead of the last TURN's TICK");
        for (int cell = 0; cell < 4; cell++) {
            ManyEyes eyes = with("go 16;");
            eyes.read(16 * cell + 8, 8, 8);
            for (int turns = 0; turns < 6; turns++) {
                CALLS.due("from " + cell + " with " + turns, eyes.kept(0), turns <= 4 - cell ? 1 : 0);
                eyes.turned(0, 0);
            }
        }
    }

    private static void howManyAreKept() {
        CALLS.says("Whether a RULE is KEPT (1, 0); how many are (rule NONE).");
        ManyEyes eyes = new ManyEyes(4, 4);
        eyes.read(8, 8, 8);
        eyes.turned(0, 3);
        for (int i = 0; i < 8; i++) {
            CALLS.due("kept of " + i, eyes.kept(-1), (i + 1) / 2);
            Check.rule(eyes, i % 2 == 0 ? "turn 3;" : "turn 2;");
            CALLS.due("rule " + i, eyes.kept(i), i % 2 == 0 ? 1 : 0);
        }
        CALLS.answers(eyes, "kept(NONE) = 4", "turned(0, 3) = 2", "kept(NONE) = 4", "turned(0, 4) = 3", "kept(NONE) = 0",
            "kept(8) = NONE");
        ManyEyes all = with("", "", "", "", "", "", "", "");
        CALLS.answers(all, "kept(NONE) = 8", "kept(7) = 1", "kept(8) = NONE");
    }

    private static void keptOut() {
        CALLS.says("how many are (rule NONE). NONE for others.");
        CALLS.changesNothing(Worlds::furnished, "kept(-2) = NONE", "kept(3) = NONE", "kept(MIN) = NONE", "kept(MAX) = NONE",
            "kept(0) = 1", "kept(1) = 0", "kept(2) = 0", "kept(NONE) = 1");
        CALLS.changesNothing(Worlds::full, "kept(8) = NONE", "kept(0) = 1", "kept(7) = 0");
        CALLS.changesNothing(Worlds::fresh, "kept(0) = NONE", "kept(NONE) = 0", "kept(-2) = NONE");
    }

    private static void parted(String what, ManyEyes eyes, int row, int x, int head, int unlike) {
        CALLS.due(what + ": X", eyes.parts(row, 0), x);
        CALLS.due(what + ": HEAD", eyes.parts(row, 1), head);
        CALLS.due(what + ": unlike turns", eyes.parts(row, 2), unlike);
    }

    private static void partedByTheMost() {
        CALLS.says("that for which the RULES that are KEPT have most unlike TURNS on TICK 0");
        ManyEyes eyes = new ManyEyes(4, 4);
        eyes.mark(11, 1);
        eyes.lens(0, 0);
        for (int i = 0; i < 8; i++) {
            Check.rule(eyes, "turn lens 0*" + (i - 3) + ";");
        }
        parted("eight of eight", eyes, 2, 8, 8, 8);
        ManyEyes held = with("turn lens 0*7;", "turn lens 0*8;", "turn lens 0*9;", "turn -lens 0*9;", "turn -8;", "turn lens 0-9;");
        held.mark(11, 1);
        held.lens(0, 0);
        parted("7, 8 and 8, -8, -8 and -8", held, 2, 8, 8, 3);
        ManyEyes later = with("turn tick;", "turn 0;", "turn tick*tick;");
        parted("unlike on later ticks alone", later, 1, NONE, NONE, NONE);
        ManyEyes goes = with("go 1;", "go 2;", "");
        parted("goes are no turns", goes, 1, NONE, NONE, NONE);
    }

    private static void partedFirst() {
        CALLS.says("by x, then HEAD");
        ManyEyes eyes = with("", "turn lens 0;", "turn lens 0*2;");
        eyes.mark(7, 1);
        eyes.lens(0, 0);
        parted("row 1 from x 0", eyes, 1, 8, 8, 3);
        parted("row 3: head 0 from x 1 is ahead of head 56 from x 3", eyes, 3, 24, 0, 3);
        parted("row 0: head 16 from x 2", eyes, 0, 40, 16, 3);
        eyes.mark(4, 1);
        parted("row 1: head 8 from x 1 is ahead of head 40", eyes, 1, 24, 8, 3);
        eyes.mark(7, 0);
        parted("row 1: the mark on the left alone", eyes, 1, 24, 40, 3);
        parted("row 2: head 56 from x 0", eyes, 2, 8, 56, 3);
        CALLS.says("of like ones the first");
        ManyEyes like = with("", "turn 1;");
        for (int row = 0; row < 4; row++) {
            parted("row " + row, like, row, 8, 0, 2);
        }
        Check.rule(like, "turn lens 0*2;");
        like.lens(0, 0);
        like.mark(7, 1);
        parted("three are more than two", like, 1, 8, 8, 3);
        parted("where two are the most", like, 2, 40, 0, 3);
        like.mark(7, 0);
        parted("the first again", like, 1, 8, 0, 2);
    }

    private static void partedInEmptyCells() {
        CALLS.says("in the middle (8, 8) of each empty CELL of a row y");
        ManyEyes eyes = with("", "turn 1;");
        for (int x = 0; x < 4; x++) {
            parted("the first empty cell is " + x, eyes, 2, 16 * x + 8, 0, 2);
            eyes.mark(8 + x, 1);
        }
        parted("none is empty", eyes, 2, NONE, NONE, NONE);
        parted("in other rows they are", eyes, 1, 8, 0, 2);
        eyes.mark(11, 0);
        parted("the last is empty again", eyes, 2, 56, 0, 2);
        eyes.body(11, 1, 0, 5);
        parted("but for a body on tick 0", eyes, 2, NONE, NONE, NONE);
        fromTheMiddle(4 * 6, 1, 24);
        fromTheMiddle(4 * 6 + 1, 63, 24);
        fromTheMiddle(6 + 4, 1, 8);
        fromTheMiddle(4, 63, 8);
    }

    /** A mark that the lens would not see from a sixteenth ahead of the middle of cell 0. */
    private static void fromTheMiddle(int cell, int side, int head) {
        ManyEyes eyes = new ManyEyes(6, 8);
        Check.rule(eyes, "");
        Check.rule(eyes, "turn lens 0;");
        eyes.lens(side, 0);
        eyes.mark(cell, 1);
        parted("a mark in " + cell, eyes, 0, 8, head, 2);
    }

    /** The last row and column of a world that is as wide as it may be; all heads. */
    private static void partedAtTheEdges() {
        CALLS.says("of STARTS with HEAD 0, 8 .. 56");
        for (int side = 0; side < 64; side++) {
            ManyEyes eyes = oneEmptyCell();
            eyes.lens(side, 0);
            int head = Math.floorMod(24 - side, 64);
            CALLS.due("lens " + side, eyes.parts(12, 1), head % 8 == 0 ? head : NONE);
            CALLS.due("its x", eyes.parts(12, 0), head % 8 == 0 ? Worlds.RING_PLACE : NONE);
        }
        ManyEyes last = new ManyEyes(24, 24);
        Check.rule(last, "");
        Check.rule(last, "turn lens 0;");
        last.lens(0, 0);
        last.mark(22 * 24 + 23, 1);
        last.mark(21 * 24 + 23, 1);
        for (int x = 0; x < 23; x++) {
            last.mark(23 * 24 + x, 1);
        }
        parted("the last cell", last, 23, 376, 40, 2);
        last.mark(23 * 24 + 22, 0);
        parted("the one ahead of it", last, 23, 360, 0, 2);
    }

    /** Row 12 has one empty cell; a rule turns there if it sees the mark 1, which is straight below. */
    private static ManyEyes oneEmptyCell() {
        ManyEyes eyes = Worlds.ring();
        Check.rule(eyes, "");
        Check.rule(eyes, "turn max(0,2-lens 0)*min(1,lens 0);");
        for (int x = 0; x < 24; x++) {
            eyes.mark(12 * 24 + x, x == 12 ? 0 : 2);
        }
        Worlds.markSides(eyes, 24, 24, 1);
        return eyes;
    }

    private static void partedWhoRests() {
        CALLS.says("(who rests: 0)");
        parted("0 and who rests", with("", "turn 5;rest 0=0;"), 0, NONE, NONE, NONE);
        parted("5 and who rests", with("turn 5;", "turn 5;rest 0=0;"), 0, 8, 0, 2);
        parted("all rest", with("turn 1;rest 0=0;", "turn 2;rest 0=0;"), 0, NONE, NONE, NONE);
        parted("who rests later", with("turn 1;rest tick=1;", "turn 2;rest tick=1;"), 0, 8, 0, 2);
    }

    private static void partedByTheKept() {
        CALLS.says("the RULES that are KEPT have most unlike TURNS");
        ManyEyes eyes = with("turn 1;", "turn 2;", "turn max(1,lens 0);");
        eyes.lens(0, 0);
        eyes.mark(7, 3);
        parted("all three", eyes, 1, 8, 8, 3);
        eyes.read(8, 8, 40);
        parted("without turns", eyes, 1, 8, 8, 3);
        eyes.turned(0, 1);
        parted("two are kept", eyes, 1, 8, 8, 2);
        eyes.turned(0, 1);
        eyes.turned(0, 2);
        parted("none is kept", eyes, 1, NONE, NONE, NONE);
    }

    private static void partedByNone() {
        CALLS.says("none if these are all alike.");
        parted("no rule", with(), 0, NONE, NONE, NONE);
        parted("one rule", with("turn 1;"), 0, NONE, NONE, NONE);
        parted("two alike", with("turn 1;", "turn 1;go 3;"), 0, NONE, NONE, NONE);
        parted("two unlike", with("turn 1;", "turn 2;"), 0, 8, 0, 2);
        parted("two held to the same", with("turn 8;", "turn 9;"), 0, NONE, NONE, NONE);
    }

    private static void partsOut() {
        CALLS.says("0 X, 1 HEAD, 2 how many unlike TURNS. NONE: none, and for others.");
        CALLS.changesNothing(EdgeReadTest::parting, "parts(-1, 0) = NONE", "parts(4, 0) = NONE", "parts(MIN, 0) = NONE",
            "parts(MAX, 0) = NONE", "parts(0, -1) = NONE", "parts(0, 3) = NONE", "parts(0, MIN) = NONE",
            "parts(0, MAX) = NONE", "parts(0, 0) = 8", "parts(0, 1) = 0", "parts(0, 2) = 2", "parts(3, 0) = 8",
            "parts(3, 2) = 2");
        CALLS.changesNothing(Worlds::furnished, "parts(5, 0) = NONE", "parts(4, 0) = NONE", "parts(0, 2) = NONE");
        CALLS.changesNothing(Worlds::fresh, "parts(0, 0) = NONE", "parts(0, 2) = NONE");
    }

    private static ManyEyes parting() {
        ManyEyes eyes = with("turn 1;go 3;", "go 2;");
        eyes.read(40, 40, 3);
        eyes.fly(1, 8, 8, 8, 4, 0);
        return eyes;
    }
}
