/** Promises 25 and 26: image and back. */
public final class ImageTest {
    private static final Check CHECK = new Check("ImageTest");

    public static void main(String[] args) {
        theFirstImage();
        allAsItWas();
        tapeAndFaultStay();
        flights();
        roomAgain();
        CHECK.end();
    }

    private static void theFirstImage() {
        ManyEyes eyes = new ManyEyes(5, 6);
        change(eyes, 9);
        CHECK.due("back to the new one", eyes.back(), 0);
        int[] want = {5, 6, 0, 0, 0, 0, 0, 0, 0};
        abouts("the new one", eyes, want);
        CHECK.due("no flight", eyes.flown(0), -1);
        CHECK.due("no tick", eyes.tick(0, 0), -10000000);
        CHECK.due("all sides open", eyes.covered(-1), 64);
    }

    /** One of each more, told from others by the number. */
    private static void change(ManyEyes eyes, int number) {
        eyes.mark(number, number);
        eyes.body(number + 10, 0, 0, number);
        eyes.lens(number, 0);
        eyes.lens(number + 1, 0);
        eyes.pair(0, 1, 1);
        Check.rule(eyes, "turn " + number % 9 + ";go 1;");
        int read = eyes.read(number, 8, 0);
        eyes.turned(read, number % 9);
        eyes.fly(eyes.about(5) - 1, 16 * 4, number, 8, 3, 0);
    }

    private static void abouts(String when, ManyEyes eyes, int[] want) {
        for (int what = 0; what < want.length; what++) {
            CHECK.due(when + ": about " + what, eyes.about(what), want[what]);
        }
    }

    private static void allAsItWas() {
        ManyEyes eyes = new ManyEyes(6, 6);
        change(eyes, 3);
        CHECK.due("one rule", eyes.image(), 1);
        int[] want = {6, 6, 1, 2, 1, 1, 1, 0, 1};
        for (int round = 0; round < 2; round++) {
            change(eyes, 5);
            eyes.mark(3, 77);
            eyes.turned(0, 0);
            CHECK.due("two rules", eyes.about(5), 2);
            CHECK.due("flown by the second", eyes.flown(2), 23);
            CHECK.due("one rule again", eyes.back(), 1);
            abouts("the image", eyes, want);
            CHECK.due("the mark", eyes.markOf(3, 0), 3);
            CHECK.due("the other's mark", eyes.markOf(5, 0), 0);
            CHECK.due("the body", eyes.markOf(13, 0), 3);
            CHECK.due("the other's body", eyes.markOf(15, 0), 0);
            CHECK.due("the lens", eyes.covered(3), 1);
            CHECK.due("the other's lens", eyes.covered(5), 0);
            CHECK.due("the flight", eyes.flown(2), 17);
            CHECK.due("its ticks", eyes.tick(2, 0), 3);
            CHECK.due("its places", eyes.tick(0, 3), 3);
            CHECK.due("its lenses", eyes.tick(0, 101), 0);
            CHECK.due("not the other's", eyes.tick(0, 102), -10000000);
            CHECK.due("the rule is kept by the read flight", eyes.kept(0), 1);
            CHECK.due("no rule 1", eyes.kept(1), -1);
            CHECK.due("the next turn", eyes.turned(0, 3), 2);
            CHECK.due("kept by it, too", eyes.kept(0), 1);
            CHECK.due("back without it", eyes.back(), 1);
            CHECK.due("the next turn is the second again", eyes.turned(0, 4), 2);
            CHECK.due("not kept by that", eyes.kept(0), 0);
        }
        CHECK.due("the image as it is now", eyes.image(), 1);
        eyes.turned(0, 3);
        eyes.back();
        CHECK.due("with its second turn", eyes.turned(0, 3), 3);
    }

    private static void tapeAndFaultStay() {
        ManyEyes eyes = new ManyEyes(4, 4);
        Check.rule(eyes, "go x;");
        CHECK.due("fault", eyes.fault(0), 1);
        Check.type(eyes, "turn 4;");
        CHECK.due("image", eyes.image(), 0);
        CHECK.due("a rule", eyes.rule(), 0);
        CHECK.due("no fault", eyes.fault(0), 0);
        Check.type(eyes, "go A");
        CHECK.due("back", eyes.back(), 0);
        CHECK.due("no fault still", eyes.fault(0), 0);
        CHECK.due("no place still", eyes.fault(1), -1);
        CHECK.due("the tape is as it is", eyes.about(7), 4);
        CHECK.due("and is read", eyes.rule(), -1);
        CHECK.due("with its fault", eyes.fault(0), 5);
        CHECK.due("back once more", eyes.back(), 0);
        CHECK.due("the fault stays", eyes.fault(0), 5);
        CHECK.due("its place stays", eyes.fault(1), 3);
    }

    private static void flights() {
        ManyEyes eyes = new ManyEyes(4, 4);
        Check.rule(eyes, "go 8;");
        eyes.image();
        eyes.fly(0, 8, 8, 8, 60, 0);
        CHECK.due("it hit", eyes.flown(3), 1);
        eyes.back();
        CHECK.due("none was flown ahead of the image", eyes.flown(3), -1);
        eyes.fly(0, 8, 8, 8, 2, 0);
        eyes.image();
        eyes.fly(0, 8, 24, 8, 60, 0);
        eyes.back();
        CHECK.due("x of the image's", eyes.flown(0), 24);
        CHECK.due("y of the image's", eyes.flown(1), 8);
        CHECK.due("it did not hit", eyes.flown(3), 0);
        CHECK.due("its second tick", eyes.tick(1, 2), 16);
        CHECK.due("it has no third", eyes.tick(2, 2), -10000000);
        Check.rule(eyes, "rest tick=1;turn 9999;");
        eyes.lens(0, 0);
        eyes.lens(1, 0);
        eyes.pair(0, 1, 1);
        eyes.fly(1, 8, 8, 8, 60, 8);
        eyes.image();
        eyes.pair(1, 0, 1);
        eyes.fly(0, 8, 8, 8, 60, 0);
        CHECK.due("the other's pair", eyes.tick(0, 201), 0);
        eyes.back();
        CHECK.due("rested", eyes.flown(4), 1);
        CHECK.due("did not hit", eyes.flown(3), 0);
        CHECK.due("over", eyes.flown(5), 2);
        CHECK.due("head", eyes.flown(2), 16);
        CHECK.due("the pair", eyes.tick(0, 200), 0);
        CHECK.due("no second pair", eyes.tick(0, 201), -10000000);
    }

    private static void roomAgain() {
        ManyEyes eyes = new ManyEyes(4, 4);
        for (int round = 0; round < 3; round++) {
            for (int i = 0; i < 8; i++) {
                CHECK.due("rule", Check.rule(eyes, round == 0 ? "go 1;" : "turn 1;"), i);
            }
            CHECK.due("the ninth", Check.rule(eyes, "go 1;"), -1);
            CHECK.due("eight in the image", round == 1 ? eyes.image() : 8, 8);
            CHECK.due("back", eyes.back(), round == 1 ? 8 : 0);
            if (round == 1) {
                eyes.fly(7, 8, 8, 8, 1, 0);
                CHECK.due("the second round's rule", eyes.flown(2), 9);
                break;
            }
        }
    }
}
