/** Promises 21 to 24: read, turned, kept, parts. */
public final class ReadTest {
    private static final Check CHECK = new Check("ReadTest");

    public static void main(String[] args) {
        reads();
        turns();
        keeps();
        keepsByEach();
        keepsAsTheWorldIs();
        keepsFromItsPlace();
        notInShortNumbers();
        parting();
        partingOfTheKept();
        noParting();
        CHECK.end();
    }

    private static ManyEyes with(String... rules) {
        ManyEyes eyes = new ManyEyes(4, 4);
        for (int i = 0; i < rules.length; i++) {
            CHECK.due("rule " + rules[i], Check.rule(eyes, rules[i]), i);
        }
        return eyes;
    }

    private static void reads() {
        ManyEyes eyes = new ManyEyes(4, 5);
        eyes.mark(0, 1);
        CHECK.due("x below", eyes.read(-1, 8, 0), -1);
        CHECK.due("x above", eyes.read(64, 8, 0), -1);
        CHECK.due("y below", eyes.read(8, -1, 0), -1);
        CHECK.due("y above", eyes.read(8, 80, 0), -1);
        CHECK.due("head below", eyes.read(8, 8, -1), -1);
        CHECK.due("head above", eyes.read(8, 8, 64), -1);
        CHECK.due("none yet", eyes.about(6), 0);
        CHECK.due("in a cell that isn't empty", eyes.read(8, 8, 0), 0);
        CHECK.due("the last place", eyes.read(63, 79, 63), 1);
        for (int i = 2; i < 6; i++) {
            CHECK.due("read " + i, eyes.read(0, 0, 0), i);
        }
        CHECK.due("the seventh", eyes.read(0, 0, 0), -1);
        CHECK.due("six", eyes.about(6), 6);
    }

    private static void turns() {
        ManyEyes eyes = new ManyEyes(4, 4);
        CHECK.due("no flight", eyes.turned(0, 0), -1);
        eyes.read(8, 8, 0);
        CHECK.due("flight below", eyes.turned(-1, 0), -1);
        CHECK.due("flight above", eyes.turned(1, 0), -1);
        CHECK.due("turn below", eyes.turned(0, -9), -1);
        CHECK.due("turn above", eyes.turned(0, 9), -1);
        for (int i = 1; i <= 20; i++) {
            CHECK.due("turn " + i, eyes.turned(0, i % 2 == 0 ? 8 : -8), i);
        }
        CHECK.due("the 21st", eyes.turned(0, 0), -1);
        eyes.read(8, 8, 0);
        CHECK.due("another flight's first", eyes.turned(1, 0), 1);
    }

    private static void keeps() {
        ManyEyes eyes = with("turn 1;", "turn tick;", "turn 1;rest tick=2;", "turn 1;go 16;");
        CHECK.due("without flights", eyes.kept(-1), 4);
        CHECK.due("without flights, one", eyes.kept(1), 1);
        eyes.read(8, 8, 8);
        CHECK.due("without turns", eyes.kept(-1), 4);
        int[] many = {3, 3, 2, 2, 1};
        for (int i = 0; i < many.length; i++) {
            CHECK.due("a turn more", eyes.turned(0, 1), i + 1);
            CHECK.due("kept of " + (i + 1), eyes.kept(-1), many[i]);
            CHECK.due("rule 0", eyes.kept(0), 1);
            CHECK.due("rule 1: 0 on tick 0", eyes.kept(1), 0);
            CHECK.due("rule 2: rests on tick 2", eyes.kept(2), i < 2 ? 1 : 0);
            CHECK.due("rule 3: hits on tick 3", eyes.kept(3), i < 4 ? 1 : 0);
        }
        eyes.turned(0, 2);
        CHECK.due("none", eyes.kept(-1), 0);
        CHECK.due("rule below NONE", eyes.kept(-2), -1);
        CHECK.due("rule above", eyes.kept(4), -1);
        CHECK.due("far", eyes.kept(Integer.MAX_VALUE), -1);
        CHECK.due("no flight was flown", eyes.flown(0), -1);
        CHECK.due("without rules", new ManyEyes(4, 4).kept(-1), 0);
        CHECK.due("no rule 0", new ManyEyes(4, 4).kept(0), -1);
    }

    private static void keepsByEach() {
        ManyEyes eyes = with("turn lens 0;", "turn 2;", "");
        eyes.mark(3, 2);
        eyes.lens(0, 0);
        eyes.read(8, 8, 8);
        eyes.turned(0, 2);
        CHECK.due("it sees the mark", eyes.kept(0), 1);
        CHECK.due("turns so always", eyes.kept(1), 1);
        CHECK.due("never turns", eyes.kept(2), 0);
        eyes.turned(0, 0);
        CHECK.due("with head 10 it doesn't see it", eyes.kept(0), 1);
        CHECK.due("turns again", eyes.kept(1), 0);
        eyes.read(8, 8, 40);
        eyes.turned(1, 0);
        CHECK.due("both flights", eyes.kept(0), 1);
        eyes.read(8, 8, 8);
        eyes.turned(2, 1);
        CHECK.due("not the third", eyes.kept(-1), 0);
    }

    private static void keepsAsTheWorldIs() {
        ManyEyes eyes = with("");
        eyes.read(8, 8, 8);
        CHECK.due("empty", eyes.kept(0), 1);
        eyes.mark(0, 1);
        CHECK.due("not empty", eyes.kept(0), 0);
        CHECK.due("none", eyes.kept(-1), 0);
        eyes.mark(0, 0);
        CHECK.due("empty again", eyes.kept(0), 1);
        eyes.body(0, 1, 0, 5);
        CHECK.due("a body on tick 0", eyes.kept(0), 0);
        ManyEyes comes = with("");
        comes.body(2, -1, 0, 5);
        comes.read(8, 8, 8);
        comes.turned(0, 0);
        comes.turned(0, 0);
        CHECK.due("hit on the last turn's tick", comes.kept(0), 1);
        comes.turned(0, 0);
        CHECK.due("hit ahead of it", comes.kept(0), 0);
    }

    private static void keepsFromItsPlace() {
        ManyEyes eyes = with("go 16;");
        eyes.read(40, 24, 8);
        eyes.turned(0, 0);
        eyes.turned(0, 0);
        CHECK.due("from x 2 it hits on tick 1", eyes.kept(0), 1);
        eyes.turned(0, 0);
        CHECK.due("and has no tick 2", eyes.kept(0), 0);
        eyes.back();
        CHECK.due("no rules in the first image", eyes.about(5), 0);
        CHECK.due("a rule anew", Check.rule(eyes, "go 16;"), 0);
        CHECK.due("a read flight anew", eyes.read(8, 40, 24), 0);
        CHECK.due("its first turn", eyes.turned(0, 0), 1);
        CHECK.due("its second", eyes.turned(0, 0), 2);
        CHECK.due("from y 2 it hits on tick 1", eyes.kept(0), 1);
        eyes.turned(0, 0);
        CHECK.due("and has no tick 2 again", eyes.kept(0), 0);
    }

    private static void notInShortNumbers() {
        ManyEyes eyes = with("turn 1000-999;", "");
        eyes.fly(0, 8, 8, 8, 1, 4);
        CHECK.due("7 - 7 in four bits", eyes.tick(0, 0), 0);
        CHECK.due("parted in whole numbers", eyes.parts(0, 2), 2);
        eyes.fly(0, 8, 8, 8, 1, 4);
        eyes.read(8, 8, 8);
        eyes.turned(0, 1);
        CHECK.due("kept in whole numbers", eyes.kept(0), 1);
        eyes.fly(0, 8, 8, 8, 1, 4);
        CHECK.due("one is", eyes.kept(-1), 1);
    }

    private static void parted(String what, ManyEyes eyes, int row, int... want) {
        for (int i = 0; i < 3; i++) {
            CHECK.due(what + ": " + i, eyes.parts(row, i), want[i]);
        }
    }

    private static void parting() {
        ManyEyes eyes = with("", "turn lens 0;");
        eyes.mark(4 + 3, 5);
        eyes.lens(0, 0);
        parted("row 1: head 8 looks at it", eyes, 1, 8, 8, 2);
        parted("row 3: head 0 from x 1", eyes, 3, 24, 0, 2);
        parted("row 0: head 24 from x 3, head 16 from x 2", eyes, 0, 40, 16, 2);
        CHECK.due("a third", Check.rule(eyes, "turn -lens 0;"), 2);
        parted("row 1: three", eyes, 1, 8, 8, 3);
        CHECK.due("a fourth turns as far as it may", Check.rule(eyes, "turn lens 0*lens 0;"), 3);
        parted("row 1: four", eyes, 1, 8, 8, 4);
        CHECK.due("a fifth as well", Check.rule(eyes, "turn 8*lens 0;"), 4);
        parted("row 1: 8 and 8 are alike", eyes, 1, 8, 8, 4);
        CHECK.due("a sixth that rests", Check.rule(eyes, "turn 3;rest 1=1;"), 5);
        parted("row 1: who rests has 0", eyes, 1, 8, 8, 4);
        eyes.mark(4, 1);
        parted("row 1: not from a cell that isn't empty", eyes, 1, 24, 8, 4);
        eyes.body(4 + 1, 1, 0, 7);
        parted("row 1: nor from one with a body; x 2 sees it on the left, too", eyes, 1, 40, 8, 4);
        CHECK.due("y below", eyes.parts(-1, 0), -1);
        CHECK.due("y above", eyes.parts(4, 0), -1);
        CHECK.due("what below", eyes.parts(1, -1), -1);
        CHECK.due("what above", eyes.parts(1, 3), -1);
        CHECK.due("no flight was flown", eyes.flown(0), -1);
    }

    private static void partingOfTheKept() {
        ManyEyes eyes = with("", "turn lens 0;", "turn 2*lens 0;", "turn 1;");
        eyes.mark(4 + 3, 1);
        eyes.lens(0, 0);
        parted("all", eyes, 1, 8, 8, 3);
        parted("row 2 is parted by turn 1 everywhere: the most is 3", eyes, 2, 40, 0, 3);
        eyes.read(8, 24, 40);
        eyes.turned(0, 0);
        CHECK.due("turn 1 is barred", eyes.kept(-1), 3);
        parted("the kept", eyes, 1, 8, 8, 3);
        eyes.read(8, 24, 8);
        eyes.turned(1, 1);
        CHECK.due("one is kept", eyes.kept(-1), 1);
        parted("one alone", eyes, 1, -1, -1, -1);
        ManyEyes first = with("", "turn 1;");
        parted("of like ones the first", first, 2, 8, 0, 2);
        first.mark(8, 1);
        parted("the first in an empty cell", first, 2, 24, 0, 2);
    }

    private static void noParting() {
        ManyEyes none = new ManyEyes(4, 4);
        parted("no rules", none, 0, -1, -1, -1);
        ManyEyes alike = with("turn 3;", "turn 1+2;go 5;");
        parted("all alike", alike, 0, -1, -1, -1);
        ManyEyes full = with("", "turn 1;");
        for (int x = 0; x < 4; x++) {
            full.mark(x, 1);
        }
        parted("no empty cell", full, 0, -1, -1, -1);
        ManyEyes rest = with("", "turn 1;rest 1=1;");
        parted("who rests: 0", rest, 0, -1, -1, -1);
    }
}
