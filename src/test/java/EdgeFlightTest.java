/** The edges of promises 17 to 20 and of what rules reckon, sentence by sentence. */
public final class EdgeFlightTest {
    private static final Check CHECK = new Check("EdgeFlightTest");
    private static final Calls CALLS = new Calls(CHECK);
    private static final int NONE = ManyEyes.NONE;

    public static void main(String[] args) {
        ticksOfAFlight();
        startsWithin();
        flightsOut();
        emptyOnTickZero();
        itStaysTheLatest();
        turnsHeld();
        goesHeld();
        headsGoingRound();
        waysCutDownwards();
        outOfTheWorld();
        onTheNextTick();
        rests();
        compares();
        notAndOr();
        letters();
        divides();
        boundAtEachStep();
        bothSidesAlways();
        shortBounds();
        shortForAllThatIsBrought();
        shortForTheFlightAlone();
        overOfTheResting();
        aheadOfTheDelay();
        flownOut();
        ticksOut();
        thoseThatWereThere();
        thoseThatAreNotThere();
        trialsWithoutLenses();
        spansOfStarts();
        atMostSixtyFour();
        withinTicks();
        firstByXThenHead();
        safeInEmptyCells();
        spansOut();
        CHECK.end();
    }

    private static ManyEyes with(String... rules) {
        ManyEyes eyes = new ManyEyes(4, 4);
        for (int i = 0; i < rules.length; i++) {
            CALLS.due("rule " + rules[i], Check.rule(eyes, rules[i]), i);
        }
        return eyes;
    }

    private static void ticksOfAFlight() {
        CALLS.says("A FLIGHT is flown for n TICKS (1 .. 60), or till it HITS or RESTS");
        ManyEyes eyes = with("", "go 16;", "rest tick=3;");
        for (int n = 1; n <= 60; n++) {
            CALLS.due(n + " ticks", eyes.fly(0, 8, 8, 8, n, 0), n);
            CALLS.due("its last tick", eyes.tick(n - 1, 1), 0);
            CALLS.due("none behind it", eyes.tick(n, 1), -10000000);
            CALLS.due("till it hits, " + n, eyes.fly(1, 8, 8, 8, n, 0), Math.min(n, 4));
            CALLS.due("whether it hit, " + n, eyes.flown(3), n >= 4 ? 1 : 0);
            CALLS.due("till it rests, " + n, eyes.fly(2, 8, 8, 8, n, 0), Math.min(n, 3));
            CALLS.due("whether it rested, " + n, eyes.flown(4), n >= 4 ? 1 : 0);
        }
    }

    private static void startsWithin() {
        CALLS.says("bits: SHORT NUMBERS of so many, 0: none: how many TICKS it turned or went.");
        CALLS.answers(Worlds.furnished(), "fly(0, 0, 0, 0, 1, 0) = 1", "fly(2, 95, 63, 63, 1, 0) = 1",
            "fly(0, 0, 79, 63, 1, 0) = 1", "fly(0, 8, 8, 8, 1, 4) = 1", "fly(0, 8, 8, 8, 1, 20) = 1",
            "fly(0, 8, 8, 8, 1, 5) = 1", "fly(0, 8, 8, 8, 1, 19) = 1");
    }

    private static void flightsOut() {
        CALLS.says("NONE, and the former one stays, for others.");
        CALLS.changesNothing(Worlds::furnished, "fly(-1, 8, 8, 8, 5, 0) = NONE", "fly(3, 8, 8, 8, 5, 0) = NONE",
            "fly(MIN, 8, 8, 8, 5, 0) = NONE", "fly(MAX, 8, 8, 8, 5, 0) = NONE", "fly(0, -1, 8, 8, 5, 0) = NONE",
            "fly(0, 96, 8, 8, 5, 0) = NONE", "fly(0, MIN, 8, 8, 5, 0) = NONE", "fly(0, MAX, 8, 8, 5, 0) = NONE",
            "fly(0, 8, -1, 8, 5, 0) = NONE", "fly(0, 8, 80, 8, 5, 0) = NONE", "fly(0, 8, MIN, 8, 5, 0) = NONE",
            "fly(0, 8, MAX, 8, 5, 0) = NONE", "fly(0, 8, 8, -1, 5, 0) = NONE", "fly(0, 8, 8, 64, 5, 0) = NONE",
            "fly(0, 8, 8, MIN, 5, 0) = NONE", "fly(0, 8, 8, MAX, 5, 0) = NONE", "fly(0, 8, 8, 8, 0, 0) = NONE",
            "fly(0, 8, 8, 8, 61, 0) = NONE", "fly(0, 8, 8, 8, -1, 0) = NONE", "fly(0, 8, 8, 8, MIN, 0) = NONE",
            "fly(0, 8, 8, 8, MAX, 0) = NONE", "fly(0, 8, 8, 8, 5, -1) = NONE", "fly(0, 8, 8, 8, 5, 1) = NONE",
            "fly(0, 8, 8, 8, 5, 2) = NONE", "fly(0, 8, 8, 8, 5, 3) = NONE", "fly(0, 8, 8, 8, 5, 21) = NONE",
            "fly(0, 8, 8, 8, 5, 32) = NONE", "fly(0, 8, 8, 8, 5, MIN) = NONE", "fly(0, 8, 8, 8, 5, MAX) = NONE",
            "fly(0, 56, 8, 8, 5, 0) = NONE", "fly(0, 48, 0, 8, 5, 0) = NONE", "fly(0, 63, 15, 8, 5, 0) = NONE",
            "fly(0, 72, 24, 8, 5, 0) = NONE");
        CALLS.changesNothing(Worlds::fresh, "fly(0, 8, 8, 8, 5, 0) = NONE");
        CALLS.changesNothing(Worlds::full, "fly(8, 8, 8, 8, 5, 0) = NONE", "fly(0, 8, 72, 8, 5, 0) = NONE");
    }

    private static void emptyOnTickZero() {
        CALLS.says("(a place in an empty CELL on TICK 0, a HEAD)");
        ManyEyes eyes = with("");
        eyes.mark(5, 1);
        eyes.body(6, 1, 0, 2);
        eyes.body(9, 0, -1, 3);
        for (int x = 0; x < 64; x += 1) {
            boolean empty = x < 16 || x >= 48;
            CALLS.due("row 1, x " + x, eyes.fly(0, x, 24, 8, 1, 0), empty ? 1 : NONE);
        }
        CALLS.answers(eyes, "fly(0, 24, 15, 8, 1, 0) = 1", "fly(0, 24, 16, 8, 1, 0) = NONE",
            "fly(0, 24, 31, 8, 1, 0) = NONE", "fly(0, 24, 32, 8, 1, 0) = NONE", "fly(0, 24, 48, 8, 1, 0) = 1",
            "fly(0, 56, 24, 8, 60, 0) = 1", "flown(3) = 1", "mark(5, 0) = true", "fly(0, 24, 24, 8, 60, 0) = 1",
            "flown(3) = 1");
    }

    private static void itStaysTheLatest() {
        CALLS.says("It stays the latest one.");
        ManyEyes eyes = with("go 1;", "turn 1;");
        CALLS.answers(eyes, "fly(0, 8, 8, 8, 3, 0) = 3", "flown(0) = 11", "fly(1, 40, 8, 8, 2, 0) = 2", "flown(0) = 40",
            "flown(2) = 10", "tick(2, 0) = NOTICK", "tick(1, 0) = 1", "mark(2, 9) = true", "lens(0, 0) = 0",
            "flown(0) = 40", "tick(1, 4) = 9", "safe(0, 8, 8, 8, 8, 8, 60, 0) = 8", "flown(0) = 40", "kept(NONE) = 2",
            "parts(0, 2) = 2", "flown(2) = 10", "tick(1, 4) = 9", "read(24, 24, 3) = 0", "turned(0, 0) = 1",
            "kept(0) = 1", "flown(0) = 40", "flown(1) = 8", "flown(2) = 10", "flown(3) = 0", "tick(0, 4) = 8");
    }

    /** The first tick's turn by this sum. */
    private static void turns(String sum, int want) {
        ManyEyes eyes = with("turn " + sum + ";");
        eyes.fly(0, 8, 8, 32, 1, 0);
        CALLS.due("turn " + sum, eyes.tick(0, 0), want);
        CALLS.due("head by turn " + sum, eyes.flown(2), 32 + want);
    }

    private static void turnsHeld() {
        CALLS.says("Else TURN (without turn 0; -8 at least, 8 at most) goes to HEAD (mod 64)");
        turns("0", 0);
        turns("1", 1);
        turns("-1", -1);
        turns("7", 7);
        turns("8", 8);
        turns("9", 8);
        turns("9999", 8);
        turns("9999*9999", 8);
        turns("-7", -7);
        turns("-8", -8);
        turns("-9", -8);
        turns("-9999", -8);
        turns("-9999*9999", -8);
        ManyEyes eyes = with("go 1;", "");
        CALLS.answers(eyes, "fly(0, 8, 8, 8, 1, 0) = 1", "tick(0, 0) = 0", "flown(2) = 8", "fly(1, 8, 8, 8, 1, 0) = 1",
            "tick(0, 0) = 0", "flown(2) = 8");
    }

    private static void goes(String sum, int want) {
        ManyEyes eyes = with("go " + sum + ";");
        eyes.fly(0, 8, 8, 8, 1, 0);
        CALLS.due("go " + sum, eyes.tick(0, 1), want);
        CALLS.due("x by go " + sum, eyes.flown(0), 8 + want);
        CALLS.due("y by go " + sum, eyes.flown(1), 8);
    }

    private static void goesHeld() {
        CALLS.says("then GO (without go 0; 0 at least, 16 at most)");
        goes("0", 0);
        goes("1", 1);
        goes("15", 15);
        goes("16", 16);
        goes("17", 16);
        goes("9999", 16);
        goes("9999*9999", 16);
        goes("-1", 0);
        goes("-16", 0);
        goes("-9999*9999", 0);
        ManyEyes eyes = with("turn 1;");
        CALLS.answers(eyes, "fly(0, 8, 8, 8, 1, 0) = 1", "tick(0, 1) = 0", "flown(0) = 8", "flown(1) = 8");
    }

    private static void headsGoingRound() {
        CALLS.says("goes to HEAD (mod 64)");
        ManyEyes up = with("turn 1;", "turn 8;", "turn -1;", "turn -8;");
        int[] turn = {1, 8, -1, -8};
        for (int rule = 0; rule < 4; rule++) {
            for (int head = 0; head < 64; head++) {
                up.fly(rule, 8, 8, head, 1, 0);
                CALLS.due("head " + head + " by " + turn[rule], up.flown(2), Math.floorMod(head + turn[rule], 64));
            }
        }
        CALLS.answers(up, "fly(1, 8, 8, 60, 60, 0) = 60", "flown(2) = 28", "tick(1, 4) = 4", "tick(9, 4) = 4",
            "fly(3, 8, 8, 60, 60, 0) = 60", "flown(2) = 28", "fly(0, 8, 8, 63, 1, 0) = 1", "flown(2) = 0",
            "fly(2, 8, 8, 0, 1, 0) = 1", "flown(2) = 63");
    }

    /** All heads by all goes: the way of the turned head, each part cut by itself. */
    private static void waysCutDownwards() {
        CALLS.says("X and Y go on by GO times the WAY of HEAD / 16, cut downwards.");
        for (int go = 0; go <= 16; go++) {
            ManyEyes eyes = new ManyEyes(6, 6);
            Check.rule(eyes, "go " + go + ";turn 3;");
            for (int head = 0; head < 64; head++) {
                eyes.fly(0, 48, 47, Math.floorMod(head - 3, 64), 1, 0);
                int[] way = Model.way(head);
                CALLS.due("x by head " + head + ", go " + go, eyes.flown(0), 48 + Math.floorDiv(go * way[0], 16));
                CALLS.due("y by head " + head + ", go " + go, eyes.flown(1), 47 + Math.floorDiv(go * way[1], 16));
                CALLS.due("it doesn't hit", eyes.flown(3), 0);
            }
        }
        ManyEyes eyes = with("go 1;", "go 7;", "go 8;", "go 9;");
        CALLS.answers(eyes, "fly(0, 8, 8, 25, 1, 0) = 1", "flown(0) = 7", "flown(1) = 9", "fly(1, 8, 8, 25, 1, 0) = 1",
            "flown(0) = 7", "fly(2, 8, 8, 25, 1, 0) = 1", "flown(0) = 7", "fly(3, 8, 8, 25, 1, 0) = 1", "flown(0) = 6",
            "fly(1, 8, 8, 23, 1, 0) = 1", "flown(0) = 8", "fly(2, 8, 8, 23, 1, 0) = 1", "flown(0) = 9");
    }

    private static void outOfTheWorld() {
        CALLS.says("or out of THE WORLD: it HITS, and is over (in that place).");
        ManyEyes eyes = with("go 1;", "go 16;");
        CALLS.answers(eyes, "fly(0, 1, 8, 40, 1, 0) = 1", "flown(0) = 0", "flown(3) = 0", "fly(0, 1, 8, 40, 60, 0) = 2",
            "flown(0) = -1", "flown(1) = 8", "flown(3) = 1", "flown(4) = 0", "fly(0, 62, 8, 8, 1, 0) = 1",
            "flown(0) = 63", "flown(3) = 0", "fly(0, 62, 8, 8, 60, 0) = 2", "flown(0) = 64", "flown(3) = 1",
            "fly(0, 8, 1, 56, 1, 0) = 1", "flown(1) = 0", "flown(3) = 0", "fly(0, 8, 1, 56, 60, 0) = 2", "flown(1) = -1",
            "flown(3) = 1", "fly(0, 8, 62, 24, 1, 0) = 1", "flown(1) = 63", "flown(3) = 0", "fly(0, 8, 62, 24, 60, 0) = 2",
            "flown(1) = 64", "flown(3) = 1", "fly(1, 0, 0, 48, 60, 0) = 1", "flown(0) = -16", "flown(1) = -16",
            "flown(2) = 48", "flown(3) = 1", "fly(1, 63, 63, 16, 60, 0) = 1", "flown(0) = 79", "flown(1) = 79",
            "tick(0, 2) = 63", "tick(1, 2) = NOTICK");
    }

    private static void onTheNextTick() {
        CALLS.says("Is the CELL there on TICK t + 1 one with a MARK");
        ManyEyes comes = with("go 16;", "");
        comes.body(2, -1, 0, 9);
        CALLS.answers(comes, "fly(0, 8, 8, 8, 60, 0) = 1", "flown(0) = 24", "flown(3) = 1", "fly(1, 24, 8, 8, 1, 0) = 1",
            "flown(3) = 1", "fly(1, 8, 8, 8, 1, 0) = 1", "flown(3) = 0", "fly(1, 8, 8, 8, 60, 0) = 2", "flown(3) = 1",
            "fly(0, 56, 8, 40, 1, 0) = 1", "flown(0) = 40", "flown(3) = 0", "fly(1, 56, 8, 8, 60, 0) = 60", "flown(3) = 0");
        ManyEyes marked = with("go 1;");
        marked.mark(1, 1);
        CALLS.answers(marked, "fly(0, 14, 8, 8, 1, 0) = 1", "flown(3) = 0", "fly(0, 15, 8, 8, 1, 0) = 1", "flown(3) = 1",
            "flown(0) = 16", "fly(0, 33, 8, 40, 60, 0) = 2", "flown(0) = 31", "fly(0, 32, 8, 40, 60, 0) = 1",
            "flown(0) = 31", "flown(3) = 1", "fly(0, 24, 17, 56, 60, 0) = 2", "flown(1) = 15");
    }

    private static void rests() {
        CALLS.says("RESTS, if rest is so: then no more.");
        ManyEyes eyes = with("rest tick=3;go 16;turn 1;", "rest 0=0;go 16;", "go 16;rest tick=1;turn -8;");
        CALLS.answers(eyes, "fly(0, 8, 24, 7, 3, 0) = 3", "flown(4) = 0", "fly(0, 8, 24, 7, 4, 0) = 3", "flown(4) = 1",
            "flown(3) = 0", "flown(0) = 56", "flown(2) = 10", "tick(2, 1) = 16", "tick(3, 1) = NOTICK",
            "fly(0, 24, 24, 7, 60, 0) = 3", "flown(3) = 1", "flown(4) = 0", "fly(1, 63, 8, 8, 60, 0) = 0", "flown(0) = 63",
            "flown(1) = 8", "flown(2) = 8", "flown(3) = 0", "flown(4) = 1", "tick(0, 0) = NOTICK", "tick(0, 2) = NOTICK",
            "fly(2, 8, 8, 16, 1, 0) = 1", "flown(4) = 0", "flown(2) = 8", "fly(2, 8, 8, 16, 2, 0) = 1", "flown(4) = 1",
            "flown(2) = 8", "flown(0) = 24");
    }

    /** Whether this is so, and how often BOUND took something away, on tick 0. */
    private static void so(String ask, boolean want, int over) {
        ManyEyes eyes = with("rest " + ask + ";");
        eyes.fly(0, 8, 8, 8, 1, 0);
        CALLS.due(ask, eyes.flown(4), want ? 1 : 0);
        CALLS.due("over of " + ask, eyes.flown(5), over);
    }

    private static void compares() {
        CALLS.says("SUM one of < <= > >= = # (unlike) SUM");
        int[][] sums = {{4, 5}, {5, 5}, {6, 5}, {-5, -4}, {-5, -5}, {-5, -6}, {-1, 0}, {0, 0}, {1, 0}, {-5, 5}, {5, -5}};
        for (int[] sum : sums) {
            int left = sum[0];
            int right = sum[1];
            so(left + "<" + right, left < right, 0);
            so(left + "<=" + right, left <= right, 0);
            so(left + ">" + right, left > right, 0);
            so(left + ">=" + right, left >= right, 0);
            so(left + "=" + right, left == right, 0);
            so(left + "#" + right, left != right, 0);
            so("not " + left + "<" + right, left >= right, 0);
        }
    }

    private static void notAndOr() {
        CALLS.says("EITHER: BOTH {or BOTH}. BOTH: ASK {and ASK}. ASK: not ASK");
        String[] asks = {"1=2", "1=1"};
        for (int bits = 0; bits < 8; bits++) {
            boolean a = (bits & 1) != 0;
            boolean b = (bits & 2) != 0;
            boolean c = (bits & 4) != 0;
            String first = asks[a ? 1 : 0];
            String second = asks[b ? 1 : 0];
            String third = asks[c ? 1 : 0];
            so(first + " or " + second + " or " + third, a || b || c, 0);
            so(first + " and " + second + " and " + third, a && b && c, 0);
            so(first + " or " + second + " and " + third, a || b && c, 0);
            so(first + " and " + second + " or " + third, a && b || c, 0);
            so("not " + first + " or " + second + " and not " + third, !a || b && !c, 0);
            so("not " + first + " and " + second + " or not " + third, !a && b || !c, 0);
        }
        for (int nots = 0; nots <= 8; nots++) {
            so("not ".repeat(nots) + "1=1", nots % 2 == 0, 0);
            so("not ".repeat(nots) + "1=2", nots % 2 == 1, 0);
        }
    }

    private static void letters() {
        CALLS.says("let LETTER SUM ; (LETTER: one TOKEN of A .. H)");
        String lets = "let A tick+1;let B A-3;let C -1-B;let D 4;let E D+1;let F E+1-tick;let G -F;let H G-1;";
        String[] names = {"A", "B", "C", "D", "E", "F", "G", "H"};
        int[] first = {1, -2, 1, 4, 5, 6, -6, -7};
        int[] second = {2, -1, 0, 4, 5, 5, -5, -6};
        for (int i = 0; i < 8; i++) {
            ManyEyes eyes = with(lets + "turn " + names[i] + ";go " + names[i] + "+8;");
            CALLS.due("two ticks", eyes.fly(0, 24, 24, 8, 2, 0), 2);
            CALLS.due(names[i] + " on tick 0", eyes.tick(0, 0), first[i]);
            CALLS.due(names[i] + " on tick 1", eyes.tick(1, 0), second[i]);
            CALLS.due("go by " + names[i], eyes.tick(0, 1), first[i] + 8);
        }
    }

    private static void divides() {
        CALLS.says("/ cuts towards 0, by 0 it is 0");
        so("7/2=3", true, 0);
        so("-7/2=-3", true, 0);
        so("(-7)/2=-3", true, 0);
        so("7/-2=-3", true, 0);
        so("-7/-2=3", true, 0);
        so("1/2=0", true, 0);
        so("(-1)/2=0", true, 0);
        so("-1/2=0", true, 0);
        so("6/2=3", true, 0);
        so("-6/2=-3", true, 0);
        so("0/5=0", true, 0);
        so("5/0=0", true, 0);
        so("-5/0=0", true, 0);
        so("0/0=0", true, 0);
        so("9999*9999/0=0", true, 1);
        so("5/(3-3)+4=4", true, 0);
        so("5/(1/2)=0", true, 0);
        so("100/7/2=7", true, 0);
        so("100/(7/2)=33", true, 0);
        so("2*7/4=3", true, 0);
        so("7/4*2=2", true, 0);
    }

    private static void boundAtEachStep() {
        CALLS.says("what is above 1000000 (below the same less) is that, at each step: BOUND.");
        so("1000*1000=9999*100+100", true, 0);
        so("1000*1000=1000*999+1000", true, 0);
        so("1000*1000-1=1000*999+999", true, 0);
        so("1000*1000+1=1000*1000", true, 1);
        so("1000*1000+1-1=1000*1000-1", true, 1);
        so("1001*1000-2000=1000*998", true, 1);
        so("1000*1001=1000*1000", true, 1);
        so("0-1000*1000=-1000*1000", true, 0);
        so("-1000*1000-1=-1000*1000", true, 1);
        so("-1000*1000-1+1=1-1000*1000", true, 1);
        so("-1000*1001=-1000*1000", true, 1);
        so("-(1000*1001)=-1000*1000", true, 1);
        so("9999*9999=1000*1000", true, 1);
        so("9999*9999*9999=1000*1000", true, 2);
        so("-9999*9999*9999=-1000*1000", true, 2);
        so("9999*9999*-9999=-1000*1000", true, 2);
        so("9999*9999/9999=100", true, 1);
        so("9999*9999-9999*9999=0", true, 2);
        so("9999*9999+9999*9999=1000*1000", true, 3);
        so("1000*1000*1000*1000/1000=1000", true, 2);
        so("1000*1000<1000*1000+1", false, 1);
        so("1000*1000*1*1=1000*1000", true, 0);
        so("max(9999*9999,1)=1000*1000", true, 1);
        so("min(1,9999*9999)=1", true, 1);
    }

    private static void bothSidesAlways() {
        CALLS.says("or and and look at both sides always.");
        so("1=1 or 9999*9999=1", true, 1);
        so("9999*9999=1 or 1=1", true, 1);
        so("1=2 and 9999*9999=1", false, 1);
        so("1=1 or 1=1 and 9999*9999=1", true, 1);
        so("1=2 and 9999*9999=1 or 9999*9999=1", false, 2);
        so("1=1 or 9999*9999=1 or 9999*9999=1", true, 2);
        so("1=2 and 9999*9999=1 and 9999*9999=1", false, 2);
        so("not 1=1 and not 9999*9999=1", false, 1);
        ManyEyes eyes = with("rest 1=1;let A 9999*9999;");
        CALLS.answers(eyes, "fly(0, 8, 8, 8, 1, 0) = 0", "flown(5) = 1");
    }

    /** How often it ran over on one tick by this sum in numbers of n bits. */
    private static void over(String sum, int bits, int want) {
        ManyEyes eyes = with("let A " + sum + ";");
        eyes.fly(0, 8, 8, 8, 1, bits);
        CALLS.due("over of " + sum + " in " + bits, eyes.flown(5), want);
    }

    private static void shortBounds() {
        CALLS.says("SHORT NUMBERS of n bits (4 .. 20): BOUND is 2 to the n - 1, less 1, in place of 1000000");
        for (int bits = 4; bits <= 14; bits++) {
            int bound = (1 << (bits - 1)) - 1;
            over("" + bound, bits, 0);
            over("" + (bound + 1), bits, 1);
            over("-" + bound, bits, 0);
            over("-" + (bound + 1), bits, 1);
            over(bound + "+1", bits, 1);
            over(bound - 1 + "+1", bits, 0);
            over("-" + bound + "-1", bits, 1);
            over("1-" + bound + "-1", bits, 0);
        }
        for (int bits = 15; bits <= 20; bits++) {
            int part = 1 << (bits - 8);
            String most = "127*" + part + "+" + (part - 1);
            over(most, bits, 0);
            over(most + "+1", bits, 1);
            over("128*" + part, bits, 1);
            over("-127*" + part + "-" + (part - 1), bits, 0);
            over("-127*" + part + "-" + (part - 1) + "-1", bits, 1);
            over("-128*" + part, bits, 1);
        }
        over("1000*1000", 20, 1);
        over("1000*1000", 0, 0);
        over("1000*1000+1", 0, 1);
        over("9999", 14, 1);
        over("9999", 15, 0);
        ManyEyes eyes = with("turn 9999;go 9999;", "turn 9-2;go -9+20;", "turn 9-10;");
        CALLS.answers(eyes, "fly(0, 8, 8, 8, 1, 4) = 1", "tick(0, 0) = 7", "tick(0, 1) = 7", "flown(5) = 2",
            "fly(0, 8, 8, 8, 1, 5) = 1", "tick(0, 0) = 8", "tick(0, 1) = 15", "fly(0, 8, 8, 8, 1, 6) = 1", "tick(0, 1) = 16",
            "flown(5) = 2", "fly(0, 8, 8, 8, 1, 0) = 1", "flown(5) = 0", "fly(1, 8, 8, 8, 1, 4) = 1", "tick(0, 0) = 5",
            "tick(0, 1) = 0", "flown(5) = 3", "fly(2, 8, 8, 8, 1, 4) = 1", "tick(0, 0) = 0", "flown(5) = 2");
    }

    private static void shortForAllThatIsBrought() {
        CALLS.says("for what NUMBERS, lenses, pairs, ticks and LETTERS bring, too.");
        for (int mark = 126; mark <= 129; mark++) {
            ManyEyes eyes = with("let A lens 0;turn A-120;");
            eyes.mark(3, mark);
            eyes.lens(0, 0);
            eyes.fly(0, 8, 8, 8, 1, 8);
            CALLS.due("lens " + mark, eyes.flown(5), mark > 127 ? 1 : 0);
            CALLS.due("turn by lens " + mark, eyes.tick(0, 0), Math.min(mark, 127) - 120);
            CALLS.due("the take of lens " + mark, eyes.tick(0, 100), mark);
        }
        ManyEyes ticks = with("let A tick;turn A;");
        CALLS.answers(ticks, "fly(0, 8, 8, 8, 8, 4) = 8", "flown(5) = 0", "fly(0, 8, 8, 8, 9, 4) = 9", "flown(5) = 1",
            "tick(8, 0) = 7", "fly(0, 8, 8, 8, 60, 4) = 60", "flown(5) = 52", "fly(0, 8, 8, 8, 60, 0) = 60", "flown(5) = 0",
            "tick(8, 0) = 8");
        for (int[] marks : new int[][] {{2, 127}, {1, 255}, {2, 128}, {1, 254}, {4, 64}}) {
            ManyEyes pairs = crossing(1, marks[0], marks[1]);
            int value = marks[0] * marks[1];
            Check.rule(pairs, "let A pair 0;turn (A-250)*min(tick,1);");
            Check.rule(pairs, "let A pair 1;turn (A+250)*min(tick,1);");
            pairs.fly(0, 8, 8, 0, 2, 9);
            CALLS.due("pair of " + value, pairs.tick(1, 200), value);
            CALLS.due("over by pair " + value, pairs.flown(5), value > 255 ? 1 : 0);
            CALLS.due("turn by pair " + value, pairs.tick(1, 0), Math.min(value, 255) - 250);
            pairs.fly(1, 8, 8, 0, 2, 9);
            CALLS.due("pair of -" + value, pairs.tick(1, 201), -value);
            CALLS.due("over by pair -" + value, pairs.flown(5), value > 255 ? 1 : 0);
            CALLS.due("turn by pair -" + value, pairs.tick(1, 0), 250 - Math.min(value, 255));
        }
        ManyEyes letters = with("let A 100;let B A;let C A+A;turn B-C+A;");
        CALLS.answers(letters, "fly(0, 8, 8, 8, 1, 4) = 1", "flown(5) = 2", "tick(0, 0) = 7");
    }

    /** Lens 0 sees a body of this mark on tick 0 alone, lens 1 always the other; pairs of both with the delay. */
    private static ManyEyes crossing(int delay, int mark, int other) {
        ManyEyes eyes = new ManyEyes(4, 4);
        eyes.body(1, 0, 1, mark);
        eyes.body(12, 0, 0, other);
        eyes.lens(8, 0);
        eyes.lens(24, 0);
        eyes.pair(0, 1, delay);
        eyes.pair(1, 0, delay);
        return eyes;
    }

    private static void shortForTheFlightAlone() {
        CALLS.says("bits: SHORT NUMBERS of so many, 0: none");
        ManyEyes eyes = with("turn 100-99;go 100-99;", "");
        CALLS.answers(eyes, "fly(0, 63, 8, 7, 1, 4) = 1", "tick(0, 1) = 0", "safe(0, 63, 63, 8, 7, 7, 1, 0) = 63",
            "fly(0, 63, 8, 7, 1, 4) = 1", "flown(3) = 0", "parts(0, 2) = 2", "fly(0, 63, 8, 7, 1, 4) = 1", "read(8, 8, 8) = 0",
            "turned(0, 1) = 1", "kept(0) = 1", "fly(0, 63, 8, 7, 1, 4) = 1", "kept(NONE) = 1", "fly(0, 63, 8, 7, 1, 0) = 1",
            "flown(3) = 1", "flown(5) = 0");
    }

    private static void overOfTheResting() {
        CALLS.says("OVER: how often BOUND (also that of 1000000) took something away in all TICKS (that of the RESTING too).");
        ManyEyes eyes = with("let A 9999*9999;rest tick=2;", "let A 9999*9999;rest 0=0;", "let A 9999*9999;go 16;", "");
        CALLS.answers(eyes, "fly(0, 8, 8, 8, 1, 0) = 1", "flown(5) = 1", "fly(0, 8, 8, 8, 2, 0) = 2", "flown(5) = 2",
            "fly(0, 8, 8, 8, 3, 0) = 2", "flown(5) = 3", "fly(0, 8, 8, 8, 60, 0) = 2", "flown(5) = 3",
            "fly(1, 8, 8, 8, 60, 0) = 0", "flown(5) = 1", "fly(2, 8, 8, 8, 60, 0) = 4", "flown(5) = 4",
            "fly(2, 8, 8, 8, 60, 4) = 8", "flown(5) = 32", "fly(3, 8, 8, 8, 60, 0) = 60", "flown(5) = 0");
    }

    private static void aheadOfTheDelay() {
        CALLS.says("(0 ahead of TICK DELAY)");
        for (int delay = 1; delay <= 8; delay++) {
            ManyEyes eyes = crossing(delay, 7, 3);
            Check.rule(eyes, "turn 0;");
            CALLS.due("ten ticks", eyes.fly(0, 8, 8, 0, 10, 0), 10);
            for (int t = 0; t < 10; t++) {
                CALLS.due("delay " + delay + " on " + t, eyes.tick(t, 200), t == delay ? 21 : 0);
                CALLS.due("likewise, the other way", eyes.tick(t, 201), t == delay ? -21 : 0);
            }
        }
        ManyEyes whole = crossing(1, 255, 255);
        Check.rule(whole, "turn 0;");
        CALLS.answers(whole, "fly(0, 8, 8, 0, 2, 0) = 2", "tick(1, 200) = 65025", "tick(1, 201) = -65025");
    }

    private static void flownOut() {
        CALLS.says("0 X, 1 Y, 2 HEAD at its end, 3 whether it HIT (1, 0), 4 RESTED, 5 OVER. NONE for others, and ahead of any.");
        CALLS.changesNothing(Worlds::furnished, "flown(-1) = NONE", "flown(6) = NONE", "flown(MIN) = NONE",
            "flown(MAX) = NONE");
        CALLS.changesNothing(Worlds::fresh, "flown(-1) = NONE", "flown(0) = NONE", "flown(1) = NONE", "flown(2) = NONE",
            "flown(3) = NONE", "flown(4) = NONE", "flown(5) = NONE", "flown(6) = NONE");
        ManyEyes eyes = with("go 1;");
        CALLS.answers(eyes, "flown(0) = NONE", "safe(0, 8, 8, 8, 8, 8, 60, 0) = 8", "kept(0) = 1", "parts(0, 0) = NONE",
            "flown(0) = NONE", "tick(0, 0) = NOTICK", "fly(0, 8, 8, 8, 61, 0) = NONE", "flown(3) = NONE",
            "fly(0, 8, 8, 8, 1, 0) = 1", "flown(3) = 0");
    }

    /** The furnished one flew five ticks, with four lenses and three pairs. */
    private static void ticksOut() {
        CALLS.says("Of a TICK of it (that it turned or went): 0 TURN, 1 GO, 2 X, 3 Y, 4 HEAD ahead of it, 100 + lens: TAKE, 200 + pair: PAIR (of those that were there as it was flown). -10000000 for others.");
        CALLS.changesNothing(Worlds::furnished, "tick(-1, 0) = NOTICK", "tick(5, 0) = NOTICK", "tick(5, 100) = NOTICK",
            "tick(-1, 100) = NOTICK", "tick(-1, 200) = NOTICK", "tick(60, 0) = NOTICK", "tick(MIN, 0) = NOTICK",
            "tick(MAX, 0) = NOTICK", "tick(0, -1) = NOTICK", "tick(0, 5) = NOTICK", "tick(0, 99) = NOTICK",
            "tick(0, 104) = NOTICK", "tick(0, 116) = NOTICK", "tick(0, 199) = NOTICK", "tick(0, 203) = NOTICK",
            "tick(0, 216) = NOTICK", "tick(0, MIN) = NOTICK", "tick(0, MAX) = NOTICK", "tick(4, 5) = NOTICK",
            "tick(0, 2) = 8", "tick(0, 3) = 40", "tick(0, 4) = 5", "tick(4, 1) = 3", "tick(0, 200) = 0",
            "tick(1, 201) = 0", "tick(4, 202) = 0");
        CALLS.changesNothing(Worlds::fresh, "tick(0, 0) = NOTICK", "tick(0, 4) = NOTICK", "tick(0, 100) = NOTICK");
        CALLS.answers(Worlds.full(), "tick(59, 0) = 1", "tick(60, 0) = NOTICK", "tick(59, 4) = 3", "tick(59, 116) = NOTICK",
            "tick(59, 216) = NOTICK", "tick(59, 99) = NOTICK", "tick(59, 199) = NOTICK", "tick(0, 215) = 0");
        ManyEyes eyes = Worlds.full();
        for (int i = 0; i < 16; i++) {
            CALLS.due("take " + i, eyes.tick(59, 100 + i), eyes.take(i, 8, 8, 3, 59));
        }
    }

    private static void thoseThatWereThere() {
        CALLS.says("(of those that were there as it was flown)");
        ManyEyes eyes = with("");
        eyes.mark(3, 9);
        CALLS.answers(eyes, "fly(0, 8, 8, 8, 2, 0) = 2", "lens(0, 0) = 0", "tick(0, 100) = NOTICK", "lens(16, 0) = 1",
            "pair(0, 1, 1) = 0", "tick(1, 200) = NOTICK", "fly(0, 8, 8, 8, 2, 0) = 2", "tick(0, 100) = 9",
            "tick(1, 101) = 0", "tick(1, 102) = NOTICK", "tick(1, 200) = 0", "lens(0, 1) = 2", "pair(1, 2, 1) = 1",
            "tick(1, 102) = NOTICK", "tick(1, 201) = NOTICK", "mark(3, 8) = true", "tick(0, 100) = 9",
            "fly(0, 8, 8, 8, 61, 0) = NONE", "tick(0, 102) = NOTICK", "fly(0, 8, 8, 8, 1, 0) = 1", "tick(0, 102) = 8",
            "tick(0, 201) = 0", "tick(1, 102) = NOTICK", "image() = 1", "lens(8, 0) = 3", "fly(0, 8, 8, 8, 1, 0) = 1",
            "tick(0, 103) = 0", "back() = 1", "tick(0, 103) = NOTICK", "tick(0, 102) = 8");
    }

    private static void thoseThatAreNotThere() {
        CALLS.says("0 if it isn't there");
        ManyEyes eyes = crossing(1, 2, 1);
        eyes.back();
        Check.rule(eyes, "turn 1+lens 0+lens 1+pair 0;");
        eyes.body(1, 0, 1, 2);
        eyes.body(12, 0, 0, 1);
        CALLS.answers(eyes, "image() = 1", "fly(0, 8, 8, 0, 2, 0) = 2", "tick(0, 0) = 1", "lens(8, 0) = 0", "lens(23, 0) = 1",
            "pair(0, 1, 1) = 0", "fly(0, 8, 8, 0, 2, 0) = 2", "tick(0, 0) = 4", "tick(0, 100) = 2", "lens(24, 0) = 2",
            "pair(0, 2, 1) = 1", "fly(0, 8, 8, 0, 2, 0) = 2", "back() = 1", "fly(0, 8, 8, 0, 2, 0) = 2", "tick(0, 0) = 1",
            "tick(1, 0) = 1", "tick(0, 100) = NOTICK", "tick(0, 200) = NOTICK");
    }

    /** A return takes lenses away that trials (kept, parts, safe) have seen by. */
    private static void trialsWithoutLenses() {
        CALLS.says("its TAKE; 0 if it isn't there");
        ManyEyes eyes = with("turn lens 0+lens 1;go lens 1*16;", "");
        eyes.mark(7, 3);
        CALLS.answers(eyes, "read(8, 24, 8) = 0", "turned(0, 0) = 1", "image() = 2", "kept(NONE) = 2", "lens(0, 0) = 0",
            "kept(NONE) = 1", "parts(2, 0) = NONE", "back() = 2", "kept(NONE) = 2", "parts(1, 2) = NONE", "lens(32, 0) = 0",
            "kept(NONE) = 2", "parts(1, 2) = 2", "parts(1, 1) = 40", "lens(0, 0) = 1", "safe(0, 40, 40, 24, 8, 8, 1, 0) = 40",
            "kept(NONE) = 1", "back() = 2", "lens(32, 0) = 0", "kept(NONE) = 2", "safe(0, 40, 40, 24, 8, 8, 1, 0) = NONE");
    }

    private static void spansOfStarts() {
        CALLS.says("SPANS of STARTS: X from one to one in steps of 16, HEADS from one to one");
        ManyEyes eyes = with("go 16;");
        CALLS.answers(eyes, "safe(0, 8, 55, 8, 8, 8, 1, 0) = NONE", "safe(0, 8, 56, 8, 8, 8, 1, 0) = 56",
            "safe(0, 8, 63, 8, 8, 8, 1, 0) = 56", "safe(0, 56, 56, 8, 8, 8, 1, 0) = 56", "safe(0, 47, 63, 8, 8, 8, 1, 0) = 63",
            "safe(0, 47, 62, 8, 8, 8, 1, 0) = NONE", "safe(0, 0, 63, 8, 8, 8, 1, 0) = 48", "safe(0, 15, 63, 8, 8, 8, 1, 0) = 63",
            "safe(0, 8, 8, 8, 9, 28, 1, 1) = NONE", "safe(0, 8, 8, 8, 9, 29, 1, 1) = 29", "safe(0, 8, 8, 8, 63, 63, 1, 1) = 63",
            "safe(0, 8, 8, 8, 0, 0, 1, 1) = 0", "safe(0, 0, 0, 63, 24, 24, 1, 0) = 0", "safe(0, 63, 63, 0, 8, 8, 1, 0) = 63");
    }

    private static void atMostSixtyFour() {
        CALLS.says("(64 STARTS at most)");
        ManyEyes eyes = new ManyEyes(24, 4);
        Check.rule(eyes, "go 16;");
        int[][] spans = {{1, 64, 1}, {2, 32, 1}, {2, 33, 0}, {3, 21, 1}, {3, 22, 0}, {4, 16, 1}, {4, 17, 0}, {5, 12, 1},
            {5, 13, 0}, {8, 8, 1}, {8, 9, 0}, {13, 4, 1}, {13, 5, 0}, {16, 4, 1}, {17, 4, 0}, {21, 3, 1}, {22, 3, 0},
            {24, 2, 1}, {24, 3, 0}, {24, 64, 0}, {2, 64, 0}};
        for (int[] span : spans) {
            int toX = 8 + 16 * (span[0] - 1);
            CALLS.due(span[0] + " by " + span[1], eyes.safe(0, 8, toX, 8, 0, span[1] - 1, 1, 0), span[2] == 1 ? 8 : NONE);
            CALLS.due("and a little more", eyes.safe(0, 8, Math.min(toX + 15, 383), 8, 0, span[1] - 1, 1, 1),
                span[2] == 1 ? 0 : NONE);
        }
        ManyEyes full = new ManyEyes(24, 4);
        Check.rule(full, "go 16;");
        for (int x = 0; x < 23; x++) {
            full.mark(x, 1);
        }
        CALLS.answers(full, "safe(0, 8, 376, 8, 8, 9, 1, 0) = 376", "safe(0, 8, 376, 8, 8, 10, 1, 0) = NONE");
    }

    private static void withinTicks() {
        CALLS.says("from which it HITS within n TICKS.");
        ManyEyes eyes = with("go 1;", "rest tick=4;go 4;");
        CALLS.answers(eyes, "safe(0, 8, 8, 8, 8, 8, 55, 0) = NONE", "safe(0, 8, 8, 8, 8, 8, 56, 0) = 8",
            "safe(0, 8, 8, 8, 8, 8, 60, 1) = 8", "safe(0, 4, 4, 8, 8, 8, 60, 0) = 4", "safe(0, 3, 3, 8, 8, 8, 60, 0) = NONE",
            "safe(0, 63, 63, 8, 8, 8, 1, 0) = 63", "safe(0, 62, 62, 8, 8, 8, 1, 0) = NONE",
            "safe(1, 48, 48, 8, 8, 8, 60, 0) = 48", "safe(1, 47, 47, 8, 8, 8, 60, 0) = NONE",
            "safe(1, 48, 48, 8, 8, 8, 4, 0) = 48", "safe(1, 48, 48, 8, 8, 8, 3, 0) = NONE");
    }

    private static void firstByXThenHead() {
        CALLS.says("SAFE: the first (by X, then HEAD) START in an empty CELL");
        ManyEyes eyes = with("go 16;");
        eyes.mark(9, 1);
        CALLS.answers(eyes, "safe(0, 8, 56, 24, 8, 23, 1, 0) = 8", "safe(0, 8, 56, 24, 8, 23, 1, 1) = 12",
            "safe(0, 24, 56, 24, 8, 23, 1, 0) = 24", "safe(0, 24, 56, 24, 8, 23, 1, 1) = 21",
            "safe(0, 40, 56, 24, 8, 23, 1, 0) = 56", "safe(0, 40, 56, 24, 8, 23, 1, 1) = 8");
    }

    private static void safeInEmptyCells() {
        CALLS.says("START in an empty CELL from which it HITS");
        ManyEyes eyes = with("go 16;");
        eyes.mark(3, 1);
        eyes.body(2, 0, 1, 1);
        CALLS.answers(eyes, "safe(0, 56, 56, 8, 8, 8, 60, 0) = NONE", "safe(0, 40, 56, 8, 8, 8, 60, 0) = NONE",
            "safe(0, 24, 56, 8, 8, 8, 60, 0) = 24", "safe(0, 24, 24, 8, 8, 8, 1, 0) = NONE", "safe(0, 40, 40, 24, 24, 24, 2, 0) = NONE",
            "safe(0, 40, 40, 24, 24, 24, 3, 0) = 40", "mark(3, 0) = true", "safe(0, 40, 56, 8, 8, 8, 60, 0) = 56");
        for (int cell = 0; cell < 4; cell++) {
            eyes.mark(cell, 1);
        }
        CALLS.answers(eyes, "safe(0, 8, 56, 8, 8, 8, 60, 0) = NONE");
    }

    private static void spansOut() {
        CALLS.says("NONE: none does, and for others (n 1 .. 60; more than 64 STARTS; from not above to).");
        CALLS.changesNothing(Worlds::furnished, "safe(-1, 8, 8, 8, 56, 56, 9, 0) = NONE", "safe(3, 8, 8, 8, 56, 56, 9, 0) = NONE",
            "safe(MIN, 8, 8, 8, 56, 56, 9, 0) = NONE", "safe(MAX, 8, 8, 8, 56, 56, 9, 0) = NONE",
            "safe(0, -1, 8, 8, 56, 56, 9, 0) = NONE", "safe(0, -8, 8, 8, 56, 56, 9, 0) = NONE",
            "safe(0, 9, 8, 8, 56, 56, 9, 0) = NONE", "safe(0, 24, 8, 8, 56, 56, 9, 0) = NONE",
            "safe(0, MIN, 8, 8, 56, 56, 9, 0) = NONE", "safe(0, MAX, 8, 8, 56, 56, 9, 0) = NONE",
            "safe(0, 8, 96, 8, 56, 56, 9, 0) = NONE", "safe(0, 96, 96, 8, 56, 56, 9, 0) = NONE",
            "safe(0, 8, MAX, 8, 56, 56, 9, 0) = NONE", "safe(0, 8, MIN, 8, 56, 56, 9, 0) = NONE",
            "safe(0, MIN, MAX, 8, 56, 56, 9, 0) = NONE", "safe(0, 8, 8, -1, 56, 56, 9, 0) = NONE",
            "safe(0, 8, 8, 80, 56, 56, 9, 0) = NONE", "safe(0, 8, 8, MIN, 56, 56, 9, 0) = NONE",
            "safe(0, 8, 8, MAX, 56, 56, 9, 0) = NONE", "safe(0, 8, 8, 8, -1, 56, 9, 0) = NONE",
            "safe(0, 8, 8, 8, 57, 56, 9, 0) = NONE", "safe(0, 8, 8, 8, 56, 55, 9, 0) = NONE",
            "safe(0, 8, 8, 8, MIN, 56, 9, 0) = NONE", "safe(0, 8, 8, 8, MAX, 56, 9, 0) = NONE",
            "safe(0, 8, 8, 8, 56, 64, 9, 0) = NONE", "safe(0, 8, 8, 8, 64, 64, 9, 0) = NONE",
            "safe(0, 8, 8, 8, 56, MAX, 9, 0) = NONE", "safe(0, 8, 8, 8, MIN, MAX, 9, 0) = NONE",
            "safe(0, 8, 8, 8, 56, 56, 0, 0) = NONE", "safe(0, 8, 8, 8, 56, 56, 61, 0) = NONE",
            "safe(0, 8, 8, 8, 56, 56, MIN, 0) = NONE", "safe(0, 8, 8, 8, 56, 56, MAX, 0) = NONE",
            "safe(0, 8, 8, 8, 56, 56, 9, -1) = NONE", "safe(0, 8, 8, 8, 56, 56, 9, 2) = NONE",
            "safe(0, 8, 8, 8, 56, 56, 9, MIN) = NONE", "safe(0, 8, 8, 8, 56, 56, 9, MAX) = NONE",
            "safe(0, 8, 24, 8, 0, 32, 9, 0) = NONE", "safe(0, 8, 8, 8, 56, 56, 9, 0) = 8",
            "safe(0, 8, 8, 8, 56, 56, 9, 1) = 56", "safe(0, 8, 8, 8, 56, 56, 60, 0) = 8",
            "safe(0, 8, 8, 8, 56, 56, 1, 0) = NONE", "safe(0, 0, 95, 79, 63, 63, 1, 0) = NONE");
        CALLS.changesNothing(Worlds::fresh, "safe(0, 8, 8, 8, 56, 56, 9, 0) = NONE");
    }
}
