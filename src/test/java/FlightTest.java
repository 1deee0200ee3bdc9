/** Promises 17 to 20: fly, flown, tick, safe; and what a rule's text reckons. */
public final class FlightTest {
    private static final Check CHECK = new Check("FlightTest");
    private static final int NO_TICK = -10000000;

    public static void main(String[] args) {
        straightOn();
        cutDownwards();
        turnsAndGoes();
        hitsBodies();
        rests();
        reckons();
        allLetters();
        theLongest();
        lensesThatWere();
        bounds();
        shortNumbers();
        lensesAndPairs();
        ticks();
        wrongFlights();
        safeStarts();
        wrongSpans();
        CHECK.end();
    }

    private static ManyEyes with(String rule) {
        ManyEyes eyes = new ManyEyes(4, 4);
        CHECK.due("rule " + rule, Check.rule(eyes, rule), 0);
        return eyes;
    }

    private static void ended(String what, ManyEyes eyes, int... want) {
        for (int i = 0; i < want.length; i++) {
            CHECK.due(what + ": flown " + i, eyes.flown(i), want[i]);
        }
    }

    private static void straightOn() {
        ManyEyes eyes = with("go 16;");
        CHECK.due("out on the right", eyes.fly(0, 8, 8, 8, 60, 0), 4);
        ended("out on the right", eyes, 72, 8, 8, 1, 0, 0);
        CHECK.due("two ticks", eyes.fly(0, 8, 8, 8, 2, 0), 2);
        ended("two ticks", eyes, 40, 8, 8, 0, 0, 0);
        CHECK.due("out above", eyes.fly(0, 8, 8, 56, 60, 0), 1);
        ended("out above", eyes, 8, -8, 56, 1, 0, 0);
        CHECK.due("out on the left", eyes.fly(0, 24, 8, 40, 60, 0), 2);
        ended("out on the left", eyes, -8, 8, 40, 1, 0, 0);
        CHECK.due("out below", eyes.fly(0, 24, 40, 24, 60, 0), 2);
        ended("out below", eyes, 24, 72, 24, 1, 0, 0);
        eyes.mark(3, 1);
        CHECK.due("into a mark", eyes.fly(0, 8, 8, 8, 60, 0), 3);
        ended("into a mark", eyes, 56, 8, 8, 1, 0, 0);
        CHECK.due("what below", eyes.flown(-1), -1);
        CHECK.due("what above", eyes.flown(6), -1);
        ManyEyes still = with("");
        CHECK.due("without any clause", still.fly(0, 0, 63, 63, 60, 0), 60);
        ended("without any clause", still, 0, 63, 63, 0, 0, 0);
    }

    private static void cutDownwards() {
        ManyEyes eyes = with("go 1;");
        CHECK.due("way (16, -2)", eyes.fly(0, 8, 8, 7, 3, 0), 3);
        ended("way (16, -2)", eyes, 11, 5, 7, 0);
        CHECK.due("way (16, 2)", eyes.fly(0, 8, 8, 9, 3, 0), 3);
        ended("way (16, 2)", eyes, 11, 8, 9, 0);
        CHECK.due("way (-16, -2)", eyes.fly(0, 8, 8, 41, 3, 0), 3);
        ended("way (-16, -2)", eyes, 5, 5, 41, 0);
        ManyEyes more = with("go 3;");
        CHECK.due("way (-6, 16) by 3: -18 / 16", more.fly(0, 20, 20, 27, 1, 0), 1);
        ended("way (-6, 16) by 3", more, 18, 23, 27, 0);
        CHECK.due("from the very first place", more.fly(0, 0, 0, 41, 60, 0), 1);
        ended("from the very first place", more, -3, -1, 41, 1);
    }

    private static void turnsAndGoes() {
        ManyEyes eyes = with("turn 100;go 100;");
        CHECK.due("at most 8 and 16", eyes.fly(0, 8, 24, 60, 1, 0), 1);
        ended("head goes round", eyes, 24, 16, 4, 0);
        CHECK.due("turn 8", eyes.tick(0, 0), 8);
        CHECK.due("go 16", eyes.tick(0, 1), 16);
        ManyEyes least = with("go -100;turn -100;");
        CHECK.due("at least -8 and 0", least.fly(0, 8, 24, 3, 1, 0), 1);
        ended("head goes round below 0", least, 8, 24, 59, 0);
        CHECK.due("turn -8", least.tick(0, 0), -8);
        CHECK.due("go 0", least.tick(0, 1), 0);
        ManyEyes both = with("go 16;turn 8;");
        CHECK.due("turns first", both.fly(0, 8, 24, 0, 1, 0), 1);
        ended("turns first", both, 24, 24, 8, 0);
    }

    private static void hitsBodies() {
        ManyEyes eyes = with("");
        eyes.body(3, -1, 0, 9);
        CHECK.due("a body comes on tick 3", eyes.fly(0, 8, 8, 8, 60, 0), 3);
        ended("a body comes", eyes, 8, 8, 8, 1, 0, 0);
        CHECK.due("not yet", eyes.fly(0, 8, 8, 8, 2, 0), 2);
        ended("not yet", eyes, 8, 8, 8, 0, 0, 0);
        CHECK.due("a start in its cell", eyes.fly(0, 56, 8, 8, 60, 0), -1);
        ended("the former one stays", eyes, 8, 8, 8, 0, 0, 0);
        ManyEyes follows = with("go 16;");
        follows.body(1, 1, 0, 9);
        CHECK.due("its cell is left on tick 1", follows.fly(0, 8, 8, 8, 60, 0), 4);
        ended("behind it, out of the world", follows, 72, 8, 8, 1);
        CHECK.due("towards it", follows.fly(0, 56, 8, 40, 60, 0), 1);
        ended("towards it", follows, 40, 8, 40, 1);
    }

    private static void rests() {
        ManyEyes eyes = with("rest tick=2;go 1;");
        CHECK.due("rests on tick 2", eyes.fly(0, 8, 8, 8, 60, 0), 2);
        ended("rests on tick 2", eyes, 10, 8, 8, 0, 1, 0);
        CHECK.due("not on that tick", eyes.tick(2, 0), NO_TICK);
        CHECK.due("tick 1", eyes.tick(1, 2), 9);
        CHECK.due("not within two ticks", eyes.fly(0, 8, 8, 8, 2, 0), 2);
        ended("not within two ticks", eyes, 10, 8, 8, 0, 0, 0);
        ManyEyes first = with("go 5;rest 0=0;turn 5;");
        CHECK.due("rests on tick 0", first.fly(0, 8, 8, 8, 60, 0), 0);
        ended("rests on tick 0", first, 8, 8, 8, 0, 1, 0);
        CHECK.due("no tick at all", first.tick(0, 4), NO_TICK);
        so("1<2", true);
        so("2<2", false);
        so("2<=2", true);
        so("3<=2", false);
        so("3>2", true);
        so("2>2", false);
        so("2>=2", true);
        so("1>=2", false);
        so("2=2", true);
        so("1=2", false);
        so("1#2", true);
        so("2#2", false);
        so("not 1=2", true);
        so("not 1=1", false);
        so("not not 1=1", true);
        so("not not not 1=1", false);
        so("not 1=1 or not 1=1", false);
        so("not 1=2 and not 1=2", true);
        so("not not 1=2", false);
        so("1=1 or 1=1 and 1=2", true);
        so("1=2 and 1=1 or 1=1", true);
        so("1=1 or 1=2 and 1=2 or 1=2", true);
        so("1=2 or 1=1 and 1=1", true);
        so("1=2 or 1=1 and 1=2", false);
        so("not 1=1 or 1=1", true);
        so("not 1=2 and 1=2", false);
        so("1=2 or 1=2 or 1=1", true);
        so("1=1 and 1=1 and 1=2", false);
    }

    /** Whether it rests on tick 0. */
    private static void so(String ask, boolean want) {
        ManyEyes eyes = with("rest " + ask + ";");
        eyes.fly(0, 8, 8, 8, 1, 0);
        CHECK.due(ask, eyes.flown(4), want ? 1 : 0);
    }

    private static void reckons() {
        so("7-2-1=4", true);
        so("2+3*4=14", true);
        so("2*3+4*5=26", true);
        so("20-2*3-4=10", true);
        so("100/7*7=98", true);
        so("100*7/7=100", true);
        so("-7/2=-3", true);
        so("7/-2=-3", true);
        so("0-7/2=-3", true);
        so("5/0=0", true);
        so("5/0+3=3", true);
        so("-5/0=0", true);
        so("-(2+3)*2=-10", true);
        so("--5=5", true);
        so("-2*-3=6", true);
        so("min(3,2)+max(3,2)=5", true);
        so("min(-3,2)*10+max(-3,-2)=-32", true);
        so("(2+3)*(4-6)=-10", true);
        so("tick=0", true);
        so("lens 0=0", true);
        so("pair 7=0", true);
        ManyEyes eyes = with("let A tick*2;let B A+1;turn B-A*2;");
        eyes.fly(0, 8, 8, 8, 4, 0);
        for (int t = 0; t < 4; t++) {
            CHECK.due("letters on tick " + t, eyes.tick(t, 0), 1 - 2 * t);
        }
    }

    private static void allLetters() {
        ManyEyes eyes = with("let A 1;let B A*2;let C B*2;let D C*2;let E D*2;let F E*2;let G F*2;let H G*2;"
            + "turn H/32-tick;go A+B+C;");
        CHECK.due("two ticks", eyes.fly(0, 8, 8, 4, 2, 0), 2);
        CHECK.due("128 / 32", eyes.tick(0, 0), 4);
        CHECK.due("and one less", eyes.tick(1, 0), 3);
        CHECK.due("1 + 2 + 4", eyes.tick(0, 1), 7);
    }

    /** All that a flight can hold. */
    private static void theLongest() {
        ManyEyes eyes = new ManyEyes(24, 24);
        Check.rule(eyes, "turn tick-50;go pair 15-pair 15+(lens 15-200)*16/16;");
        for (int cell = 0; cell < 576; cell++) {
            if (cell / 24 % 23 == 0 || cell % 24 % 23 == 0) {
                eyes.mark(cell, 201);
            }
        }
        for (int i = 0; i < 16; i++) {
            eyes.lens(4 * i, 7);
        }
        for (int i = 0; i < 16; i++) {
            eyes.pair(i, (i + 5) % 16, 1 + i % 8);
        }
        eyes.body(5 * 24 + 5, 0, 0, 100);
        CHECK.due("sixty ticks", eyes.fly(0, 200, 200, 0, 60, 0), 60);
        CHECK.due("the last turn", eyes.tick(59, 0), 8);
        CHECK.due("a go", eyes.tick(59, 1) >= 0 && eyes.tick(59, 1) <= 1, true);
        CHECK.due("its place", eyes.tick(59, 2) + Math.floorDiv(eyes.tick(59, 1) * Model.way(eyes.flown(2))[0], 16),
            eyes.flown(0));
        CHECK.due("its head", eyes.tick(59, 4) + 8 & 63, eyes.flown(2));
        for (int t = 51; t < 60; t++) {
            for (int i = 0; i < 16; i++) {
                CHECK.due("take", eyes.tick(t, 100 + i),
                    eyes.take(i, eyes.tick(t, 2), eyes.tick(t, 3), eyes.tick(t, 4), t));
                int past = t - 1 - i % 8;
                int b = (i + 5) % 16;
                CHECK.due("pair", eyes.tick(t, 200 + i), eyes.tick(past, 100 + i) * eyes.tick(t, 100 + b)
                    - eyes.tick(t, 100 + i) * eyes.tick(past, 100 + b));
            }
        }
        CHECK.due("no lens 16", eyes.tick(59, 116), NO_TICK);
        CHECK.due("no pair 16", eyes.tick(59, 216), NO_TICK);
        CHECK.due("no tick 60", eyes.tick(60, 0), NO_TICK);
    }

    /** What was seen by lenses that a return has taken away. */
    private static void lensesThatWere() {
        ManyEyes eyes = with("turn lens 0+pair 0;");
        eyes.mark(3, 5);
        eyes.mark(12, 5);
        eyes.image();
        eyes.lens(0, 0);
        eyes.lens(16, 0);
        eyes.pair(0, 1, 1);
        CHECK.due("seen", eyes.fly(0, 8, 8, 8, 3, 0), 3);
        CHECK.due("turned", eyes.tick(0, 0), 5);
        eyes.back();
        CHECK.due("not there", eyes.fly(0, 8, 8, 8, 3, 0), 3);
        for (int t = 0; t < 3; t++) {
            CHECK.due("nothing is taken on " + t, eyes.tick(t, 0), 0);
        }
    }

    private static void overOf(String rule, int bits, int n, int want) {
        ManyEyes eyes = with(rule);
        eyes.fly(0, 8, 8, 8, n, bits);
        CHECK.due("over of " + rule, eyes.flown(5), want);
    }

    private static void bounds() {
        so("1000*1000+1=1000*1000", true);
        so("9999*9999=1000*1000", true);
        so("-9999*9999=-1000*1000", true);
        so("-1000*1000-1=-1000*1000", true);
        so("1000*1000*1000/1000=1000", true);
        so("1000*1000+5-5=1000*1000-5", true);
        overOf("let A 1000*1000;", 0, 1, 0);
        overOf("let A 1000*1000+1;", 0, 1, 1);
        overOf("let A -1000*1000-1;", 0, 3, 3);
        overOf("let A 9999*9999*9999;", 0, 1, 2);
        overOf("rest 1=1 or 9999*9999=1;", 0, 1, 1);
        overOf("rest 1=2 and 9999*9999=1;", 0, 2, 2);
        overOf("rest tick=2;let A 9999*9999;", 0, 60, 3);
        overOf("turn 9999;go 0-9999;", 0, 5, 0);
        overOf("turn min(1,9999*9999);", 0, 1, 1);
    }

    private static void shortNumbers() {
        overOf("let A 7;", 4, 1, 0);
        overOf("let A 8;", 4, 1, 1);
        overOf("let A 8;let B A;let C A+A;", 4, 1, 2);
        overOf("let A -8;", 4, 1, 1);
        overOf("let A -(4+4);", 4, 1, 1);
        overOf("let A -4-4;", 4, 1, 1);
        overOf("let A tick;", 4, 10, 2);
        overOf("let A 1000*1000;", 20, 1, 1);
        overOf("let A 724*724;", 20, 1, 0);
        overOf("let A 725*725;", 20, 1, 1);
        overOf("let A lens 15;let B pair 15;let C lens 8;", 4, 1, 0);
        ManyEyes eyes = with("turn 9999*9999-4;go 9-4;");
        CHECK.due("4 bits", eyes.fly(0, 8, 8, 8, 1, 4), 1);
        CHECK.due("7 - 4", eyes.tick(0, 0), 3);
        CHECK.due("7 - 4 likewise", eyes.tick(0, 1), 3);
        CHECK.due("three times over, and 9", eyes.flown(5), 4);
        CHECK.due("5 bits", eyes.fly(0, 8, 8, 8, 1, 5), 1);
        CHECK.due("15 - 4", eyes.tick(0, 0), 8);
        CHECK.due("9 - 4", eyes.tick(0, 1), 5);
        CHECK.due("three times over", eyes.flown(5), 3);
        ManyEyes sees = with("turn lens 0-120;");
        sees.mark(3, 200);
        sees.lens(0, 0);
        CHECK.due("8 bits", sees.fly(0, 8, 8, 8, 1, 8), 1);
        CHECK.due("127 - 120", sees.tick(0, 0), 7);
        CHECK.due("the take itself is whole", sees.tick(0, 100), 200);
        CHECK.due("over", sees.flown(5), 1);
    }

    private static ManyEyes crossing(String rule) {
        ManyEyes eyes = with(rule);
        eyes.body(2, 0, 1, 100);
        eyes.body(2 * 4 + 1, -1, 0, 50);
        eyes.lens(8, 0);
        eyes.lens(24, 0);
        eyes.pair(0, 1, 1);
        eyes.pair(1, 0, 1);
        eyes.pair(0, 1, 2);
        return eyes;
    }

    private static void lensesAndPairs() {
        ManyEyes eyes = crossing("turn pair 0/1000;");
        CHECK.due("three ticks", eyes.fly(0, 8, 8, 0, 3, 0), 3);
        int[][] want = {{100, 0, 0, 0, 0}, {0, 50, 5000, -5000, 0}, {0, 0, 0, 0, 0}};
        for (int t = 0; t < 3; t++) {
            CHECK.due("lens 0 on " + t, eyes.tick(t, 100), want[t][0]);
            CHECK.due("lens 1 on " + t, eyes.tick(t, 101), want[t][1]);
            CHECK.due("pair 0 on " + t, eyes.tick(t, 200), want[t][2]);
            CHECK.due("pair 1 on " + t, eyes.tick(t, 201), want[t][3]);
            CHECK.due("pair 2 on " + t, eyes.tick(t, 202), want[t][4]);
            CHECK.due("turn on " + t, eyes.tick(t, 0), want[t][2] / 1000);
        }
        eyes.lens(0, 7);
        eyes.pair(0, 2, 1);
        CHECK.due("a lens that wasn't there", eyes.tick(1, 102), NO_TICK);
        CHECK.due("a pair that wasn't there", eyes.tick(1, 203), NO_TICK);
        eyes.fly(0, 8, 8, 0, 3, 0);
        CHECK.due("a lens that is there", eyes.tick(1, 102), 0);
        CHECK.due("a pair that is there", eyes.tick(1, 203), 0);
        ManyEyes late = with("");
        late.body(1, 0, 1, 7);
        late.body(3 * 4, 0, 0, 3);
        late.lens(8, 0);
        late.lens(24, 0);
        late.pair(0, 1, 8);
        CHECK.due("ten ticks", late.fly(0, 8, 8, 0, 10, 0), 10);
        CHECK.due("ahead of the delay", late.tick(7, 200), 0);
        CHECK.due("7 * 3 - 0 * 3", late.tick(8, 200), 21);
        CHECK.due("0 * 3 - 0 * 3", late.tick(9, 200), 0);
    }

    private static void ticks() {
        ManyEyes eyes = with("turn tick+1;go 4+tick;");
        CHECK.due("ahead of any", eyes.tick(0, 0), NO_TICK);
        CHECK.due("flown ahead of any", eyes.flown(3), -1);
        CHECK.due("three ticks", eyes.fly(0, 8, 8, 8, 3, 0), 3);
        int[][] want = {{1, 4, 8, 8, 8}, {2, 5, 12, 8, 9}, {3, 6, 17, 9, 11}};
        for (int t = 0; t < 3; t++) {
            for (int what = 0; what < 5; what++) {
                CHECK.due("tick " + t + ", " + what, eyes.tick(t, what), want[t][what]);
            }
        }
        ended("the end", eyes, 23, 13, 14, 0, 0, 0);
        CHECK.due("tick below", eyes.tick(-1, 0), NO_TICK);
        CHECK.due("tick above", eyes.tick(3, 0), NO_TICK);
        CHECK.due("what below", eyes.tick(0, -1), NO_TICK);
        CHECK.due("what above", eyes.tick(0, 5), NO_TICK);
        CHECK.due("what 99", eyes.tick(0, 99), NO_TICK);
        CHECK.due("no lens", eyes.tick(0, 100), NO_TICK);
        CHECK.due("no pair", eyes.tick(0, 200), NO_TICK);
        CHECK.due("far", eyes.tick(Integer.MAX_VALUE, Integer.MAX_VALUE), NO_TICK);
        eyes.mark(0, 3);
        CHECK.due("it stays, whatever is marked", eyes.tick(0, 2), 8);
    }

    private static void wrongFlights() {
        ManyEyes eyes = with("go 1;");
        eyes.mark(5, 1);
        CHECK.due("first", eyes.fly(0, 8, 8, 8, 1, 0), 1);
        int[][] wrong = {{-1, 8, 8, 8, 1, 0}, {1, 8, 8, 8, 1, 0}, {0, -1, 8, 8, 1, 0}, {0, 64, 8, 8, 1, 0},
            {0, 8, -1, 8, 1, 0}, {0, 8, 64, 8, 1, 0}, {0, 8, 8, -1, 1, 0}, {0, 8, 8, 64, 1, 0}, {0, 8, 8, 8, 0, 0},
            {0, 8, 8, 8, 61, 0}, {0, 8, 8, 8, 1, -1}, {0, 8, 8, 8, 1, 1}, {0, 8, 8, 8, 1, 3}, {0, 8, 8, 8, 1, 21},
            {0, 24, 24, 8, 1, 0}, {0, 8, 8, 8, 1, Integer.MAX_VALUE}, {0, 8, 8, 8, Integer.MIN_VALUE, 0}};
        for (int[] call : wrong) {
            CHECK.due("wrong", eyes.fly(call[0], call[1], call[2], call[3], call[4], call[5]), -1);
            CHECK.due("the former one stays", eyes.flown(0), 9);
        }
        CHECK.due("4 bits", eyes.fly(0, 8, 8, 8, 60, 4), 56);
        CHECK.due("20 bits", eyes.fly(0, 8, 8, 8, 60, 20), 56);
    }

    private static void safeStarts() {
        ManyEyes eyes = with("go 16;");
        eyes.fly(0, 24, 24, 8, 1, 0);
        eyes.mark(2, 1);
        CHECK.due("by x first", eyes.safe(0, 8, 24, 8, 8, 10, 1, 0), 24);
        CHECK.due("its head", eyes.safe(0, 8, 24, 8, 8, 10, 1, 1), 8);
        CHECK.due("in two ticks from the first", eyes.safe(0, 8, 24, 8, 8, 10, 2, 0), 8);
        CHECK.due("none in one tick", eyes.safe(0, 8, 23, 8, 8, 10, 1, 0), -1);
        CHECK.due("up and out, x", eyes.safe(0, 8, 24, 8, 0, 10, 1, 0), 8);
        CHECK.due("up and out, head", eyes.safe(0, 8, 24, 8, 0, 10, 1, 1), 0);
        CHECK.due("way (-10, 16) is the first that leaves", eyes.safe(0, 8, 8, 8, 20, 63, 1, 1), 29);
        eyes.mark(0, 1);
        CHECK.due("not from a cell that isn't empty", eyes.safe(0, 8, 24, 8, 0, 10, 1, 0), 24);
        CHECK.due("none is left", eyes.safe(0, 8, 8, 8, 0, 63, 60, 0), -1);
        CHECK.due("the latest flight is no other", eyes.flown(0), 40);
        ManyEyes rests = with("rest tick=1;go 16;");
        CHECK.due("it rests ahead of it", rests.safe(0, 8, 24, 8, 8, 8, 60, 0), -1);
        CHECK.due("it doesn't from the last", rests.safe(0, 8, 56, 8, 8, 8, 60, 0), 56);
        ManyEyes bodies = with("");
        bodies.body(3, -1, 0, 5);
        CHECK.due("a body comes first to x 2, asked by x", bodies.safe(0, 8, 56, 8, 3, 3, 2, 0), 24);
        CHECK.due("within 3 ticks to x 0", bodies.safe(0, 8, 56, 8, 3, 3, 3, 0), 8);
        CHECK.due("its own cell is none", bodies.safe(0, 56, 56, 8, 3, 3, 60, 0), -1);
        ManyEyes leaves = with("go 16;");
        leaves.body(3, -1, 0, 5);
        CHECK.due("even if it leaves", leaves.safe(0, 56, 56, 8, 8, 8, 60, 0), -1);
        ManyEyes wide = with("go 1000*2-1999;");
        wide.fly(0, 8, 8, 8, 1, 4);
        CHECK.due("short numbers: 7 - 7", wide.tick(0, 1), 0);
        CHECK.due("not for safe", wide.safe(0, 60, 60, 8, 8, 8, 4, 0), 60);
    }

    private static void wrongSpans() {
        ManyEyes eyes = with("go 16;");
        CHECK.due("64 starts in one cell", eyes.safe(0, 8, 8, 8, 0, 63, 60, 0), 8);
        CHECK.due("64 starts in two", eyes.safe(0, 8, 24, 8, 0, 31, 60, 0), 8);
        CHECK.due("64 starts, the span ends ahead of the next", eyes.safe(0, 8, 39, 8, 0, 31, 60, 0), 8);
        CHECK.due("66 starts", eyes.safe(0, 8, 24, 8, 0, 32, 60, 0), -1);
        ManyEyes five = new ManyEyes(5, 4);
        Check.rule(five, "go 16;");
        CHECK.due("60 starts", five.safe(0, 8, 72, 8, 0, 11, 60, 0), 8);
        CHECK.due("65 starts", five.safe(0, 8, 72, 8, 0, 12, 60, 0), -1);
        CHECK.due("96 starts", eyes.safe(0, 8, 40, 8, 0, 31, 60, 0), -1);
        int[][] wrong = {{-1, 8, 8, 8, 0, 0, 1, 0}, {1, 8, 8, 8, 0, 0, 1, 0}, {0, -1, 8, 8, 0, 0, 1, 0},
            {0, 8, 64, 8, 0, 0, 1, 0}, {0, 8, 8, -1, 0, 0, 1, 0}, {0, 8, 8, 64, 0, 0, 1, 0}, {0, 8, 8, 8, -1, 0, 1, 0},
            {0, 8, 8, 8, 0, 64, 1, 0}, {0, 8, 8, 8, 0, 0, 0, 0}, {0, 8, 8, 8, 0, 0, 61, 0}, {0, 8, 8, 8, 0, 0, 1, -1},
            {0, 8, 8, 8, 0, 0, 1, 2}, {0, 9, 8, 8, 0, 0, 1, 0}, {0, 8, 8, 8, 1, 0, 1, 0},
            {0, Integer.MIN_VALUE, Integer.MAX_VALUE, 8, 0, 0, 1, 0}};
        CHECK.due("right", eyes.safe(0, 8, 8, 8, 0, 0, 1, 0), 8);
        for (int[] c : wrong) {
            CHECK.due("wrong", eyes.safe(c[0], c[1], c[2], c[3], c[4], c[5], c[6], c[7]), -1);
        }
    }
}
