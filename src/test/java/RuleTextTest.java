/** Promises 13 to 16: feed, end, rule, fault. */
public final class RuleTextTest {
    private static final Check CHECK = new Check("RuleTextTest");
    private static final String EIGHT_LETS =
        "let A 1;let B 1;let C 1;let D 1;let E 1;let F 1;let G 1;let H 1;";

    public static void main(String[] args) {
        tape();
        rulesAndTape();
        faultsAheadOfAny();
        tokens();
        cantStand();
        wrongNumbers();
        tooDeep();
        secondTimes();
        untold();
        tooMany();
        theFirstAndTheLeast();
        oneBehindTheOther();
        manyTokens();
        CHECK.end();
    }

    private static void fine(String text) {
        faulty(text, 0, -1);
    }

    private static void faulty(String text, int fault, int place) {
        ManyEyes eyes = new ManyEyes(4, 4);
        CHECK.due("rule of " + text, Check.rule(eyes, text), fault == 0 ? 0 : -1);
        CHECK.due("fault of " + text, eyes.fault(0), fault);
        CHECK.due("place in " + text, eyes.fault(1), place);
        CHECK.due("rules behind " + text, eyes.about(5), fault == 0 ? 1 : 0);
        CHECK.due("the tape is empty", eyes.about(7), 0);
    }

    private static void tape() {
        ManyEyes eyes = new ManyEyes(4, 4);
        CHECK.due("end of nothing", eyes.end(0), 0);
        CHECK.due("end beyond", eyes.end(1), -1);
        CHECK.due("end below", eyes.end(-1), -1);
        for (int n = 20; n <= 300; n += 20) {
            CHECK.due("feed to " + n, eyes.feed(-1, 0, 1, 2, 3), n);
        }
        CHECK.due("above 300", eyes.feed(0, 0, 0, 0, 0), -1);
        CHECK.due("none came", eyes.about(7), 300);
        CHECK.due("end above", eyes.end(301), -1);
        CHECK.due("end of all", eyes.end(300), 300);
        CHECK.due("end below 0", eyes.end(Integer.MIN_VALUE), -1);
        CHECK.due("nothing was done", eyes.about(7), 300);
        CHECK.due("281 are left", eyes.end(281), 281);
        CHECK.due("301 would be", eyes.feed(0, 0, 0, 0, 0), -1);
        CHECK.due("280 are left", eyes.end(280), 280);
        CHECK.due("300 again", eyes.feed(0, 0, 0, 0, 0), 300);
        eyes.end(0);
        CHECK.due("'go 1;' by the highest byte first", eyes.feed(0x676f2031, 0x3b000000, 0, 0, 0), 20);
        eyes.end(5);
        CHECK.due("a rule", eyes.rule(), 0);
        eyes.feed(0x20202020, 0x20202020, 0x20202020, 0x20202020, 0x20202020);
        eyes.feed(0x20202020, 0x20202020, 0x20202020, 0x20202020, 0x20202021);
        CHECK.due("the lowest byte of e last", eyes.rule(), -1);
        CHECK.due("at byte 39", eyes.fault(1), 39);
        eyes.feed(0x20202020, 0x20212020, 0x20202020, 0x20202020, 0x20202020);
        CHECK.due("within b", eyes.rule(), -1);
        CHECK.due("at byte 5", eyes.fault(1), 5);
        eyes.feed(0xff000000, 0, 0, 0, 0);
        CHECK.due("byte 255", eyes.rule(), -1);
        CHECK.due("is none", eyes.fault(0), 1);
        CHECK.due("at byte 0", eyes.fault(1), 0);
    }

    private static void rulesAndTape() {
        ManyEyes eyes = new ManyEyes(4, 4);
        for (int i = 0; i < 8; i++) {
            CHECK.due("rule " + i, Check.rule(eyes, i % 2 == 0 ? "go 1;" : ""), i);
            CHECK.due("the tape is empty", eyes.about(7), 0);
        }
        CHECK.due("fault without", eyes.fault(0), 0);
        Check.type(eyes, "oops");
        CHECK.due("the ninth", eyes.rule(), -1);
        CHECK.due("the tape stays", eyes.about(7), 4);
        CHECK.due("it was not read", eyes.fault(0), 0);
        CHECK.due("no place", eyes.fault(1), -1);
        CHECK.due("eight", eyes.about(5), 8);
        eyes.back();
        CHECK.due("room again, with a fault", eyes.rule(), -1);
        CHECK.due("read now", eyes.fault(0), 1);
        CHECK.due("the tape is empty behind a fault", eyes.about(7), 0);
        CHECK.due("what below", eyes.fault(-1), -1);
        CHECK.due("what above", eyes.fault(2), -1);
        CHECK.due("an empty text", eyes.rule(), 0);
        CHECK.due("has no fault", eyes.fault(0), 0);
    }

    private static void faultsAheadOfAny() {
        ManyEyes eyes = new ManyEyes(4, 4);
        CHECK.due("fault ahead of any", eyes.fault(0), -1);
        CHECK.due("place ahead of any", eyes.fault(1), -1);
        eyes.feed(0, 0, 0, 0, 0);
        CHECK.due("fed, not read", eyes.fault(0), -1);
    }

    private static void tokens() {
        fine("");
        fine(" \n ");
        fine("go 1;");
        fine("go1;turn2;rest3<4;");
        fine("\ngo\n 1 ;\n");
        fine("turn-lens 0*pair 15/(tick+3)-max(1,-2)+min(tick,lens 15);");
        fine("rest not 1<2 and 3<=4 or 5>6 and not not 7>=8 or 1=2 and 3#4;");
        fine("let A 1;let H A;let B A+H;turn B;");
        fine("rest 1<=2;");
        fine("turn 00000000000000000000009999;");
        faulty("goto 1;", 1, 0);
        faulty("go A1;", 5, 3);
        faulty("letA 1;", 1, 0);
        faulty("let AB 1;", 1, 4);
        faulty("let A1;go A;B", 1, 12);
        faulty("rest 1 < = 2;", 1, 9);
        faulty("rest 1<==2;", 1, 8);
        faulty("rest 1=<2;", 1, 7);
        faulty("rest 1><2;", 1, 7);
        faulty("go\t1;", 1, 2);
        faulty("go\r1;", 1, 2);
        faulty("go 1.5;", 1, 4);
        faulty("go " + (char) 233 + ";", 1, 3);
        faulty("go " + (char) 0 + ";", 1, 3);
        faulty("" + (char) 0, 1, 0);
        faulty("go 1;" + (char) 0, 1, 5);
        faulty("go 1;" + (char) 255, 1, 5);
        faulty("go 1" + (char) 254 + ";", 1, 4);
        faulty("GO 1;", 1, 0);
        faulty("go Tick;", 1, 3);
        faulty("go ticks;", 1, 3);
        faulty("go tickk;", 1, 3);
        faulty("go abcdetick;", 1, 3);
        faulty("  go ]", 1, 5);
    }

    private static void cantStand() {
        faulty("1;", 1, 0);
        faulty(";", 1, 0);
        faulty("go 1;;", 1, 5);
        faulty("go;", 1, 2);
        faulty("go", 1, 2);
        faulty("go   ", 1, 5);
        faulty("go 1", 1, 4);
        faulty("go 1 \n", 1, 6);
        faulty("let", 1, 3);
        faulty("let 1 1;", 1, 4);
        faulty("let I 1;", 1, 4);
        faulty("let a 1;", 1, 4);
        faulty("let A;", 1, 5);
        faulty("let A 1", 1, 7);
        faulty("go 1 2;", 1, 5);
        faulty("go + 1;", 1, 3);
        faulty("go 1 + ;", 1, 7);
        faulty("go 1 * * 2;", 1, 7);
        faulty("go 1 < 2;", 1, 5);
        faulty("go 1 , 2;", 1, 5);
        faulty("go (1;", 1, 5);
        faulty("go 1);", 1, 4);
        faulty("go ();", 1, 4);
        faulty("go (1, 2);", 1, 5);
        faulty("go min 1;", 1, 7);
        faulty("go min (1);", 1, 9);
        faulty("go min (1, 2, 3);", 1, 12);
        faulty("go max (1 2);", 1, 10);
        faulty("go lens;", 1, 7);
        faulty("go lens A;", 1, 8);
        faulty("go lens (1);", 1, 8);
        faulty("go lens -1;", 1, 8);
        faulty("go pair tick;", 1, 8);
        faulty("go not 1;", 1, 3);
        faulty("go I;", 1, 3);
        faulty("go let;", 1, 3);
        faulty("rest 1;", 1, 6);
        faulty("rest 1 < 2 < 3;", 1, 11);
        faulty("rest (1 < 2);", 1, 8);
        faulty("rest 1 < not 2;", 1, 9);
        faulty("rest 1 < 2 and;", 1, 14);
        faulty("rest 1 < 2 or or 3 < 4;", 1, 14);
        faulty("rest 1 < 2 not 3 < 4;", 1, 11);
        faulty("rest not;", 1, 8);
        faulty("rest and 1 < 2;", 1, 5);
        faulty("rest 1 and 2 < 3;", 1, 7);
        faulty("rest 1 = 2", 1, 10);
        faulty("go 1 and 2;", 1, 5);
    }

    private static void wrongNumbers() {
        fine("go 9999;");
        fine("go lens 15;");
        fine("go pair 15;");
        fine("go lens 015;");
        faulty("go 10000;", 2, 3);
        faulty("go 4294967297;", 2, 3);
        faulty("go 18446744073709551617;", 2, 3);
        faulty("go lens 16;", 2, 8);
        faulty("go pair 16;", 2, 8);
        faulty("go lens 10000;", 2, 8);
        faulty("go 1+min(2, 10000);", 2, 12);
    }

    private static void tooDeep() {
        fine("go ((((((((1))))))));");
        faulty("go (((((((((1)))))))));", 3, 11);
        fine("go --------1;");
        faulty("go ---------1;", 3, 11);
        fine("rest not not not not not not not not 1=1;");
        faulty("rest not not not not not not not not not 1=1;", 3, 37);
        faulty("rest not not not not (((((1)))))=1;", 3, 25);
        fine("rest not not not not ((((1))))=((((1)))) and not not not not ((((1))))=1;");
        faulty("rest not not not not 1=(((((1)))));", 3, 27);
        fine("go -(-(-(-(1))));");
        faulty("go -(-(-(-(-1))));", 3, 11);
        fine("go -1-1-1-1-1-1-1-1-1-1-1;");
        fine("go (1)+(1)+(1)+(1)+(1)+(1)+(1)+(1)+(1)+(1);");
        fine("go -1 - -1 - -1 - -1 - -1 - -1 - -1 - -1 - -1 - -1;");
        fine("go max(min(max(min(max(min(max(min(1,2),3),4),5),6),7),8),9);");
        fine("go max(9,min(8,max(7,min(6,max(5,min(4,max(3,min(1,2))))))));");
        faulty("go ((((((((min(1,2)))))))));", 3, 14);
        faulty("go ((((((((min 1))))))));", 1, 15);
        faulty("go ((((((((-1))))))));", 3, 11);
        faulty("go ((((((((1+-1))))))));", 3, 13);
        fine("go ((((((((1-1))))))));");
        faulty("go --------(1);", 3, 11);
        fine("go --------1-(1);");
        fine("go min((((((((1))))))),1);");
        faulty("go min(((((((((1)))))))),1);", 3, 14);
        fine("go 0" + "+min(1,2)".repeat(12) + ";");
        fine("rest 0=" + "--1-max(1,2)*".repeat(9) + "1;");
        fine("rest " + "not not not 1=1 and ".repeat(9) + "1=1;");
    }

    private static void secondTimes() {
        faulty("go 1;go 2;", 4, 5);
        faulty("turn 1; turn 2;", 4, 8);
        faulty("rest 1=1;rest 1=1;", 4, 9);
        faulty("let A 1;let A 2;", 4, 12);
        faulty("let A 1;go 1;let B 1;let A", 4, 25);
        faulty("go 1;turn 1;rest 1=1;let A 1;go", 4, 29);
        fine("go 1;turn 1;rest 1=1;let A 1;");
    }

    private static void untold() {
        faulty("go A;", 5, 3);
        faulty("let A A;", 5, 6);
        faulty("let A 1;go B;", 5, 11);
        faulty("go A;let A 1;", 5, 3);
        faulty("rest 1=H;", 5, 7);
        faulty("let A 1;let B A+B;", 5, 16);
        fine("let A 1;let B A+A;");
    }

    private static void tooMany() {
        fine(EIGHT_LETS + "turn 1;go 1;");
        faulty(EIGHT_LETS + "turn 1;go 1;rest 1=1;", 6, 76);
        faulty(EIGHT_LETS + "turn 1;go 1;let A 1;", 6, 76);
        faulty(EIGHT_LETS + "turn 1;go 1; go 1;", 4, 77);
        faulty(EIGHT_LETS + "turn 1;go 1;1", 1, 76);
        faulty(EIGHT_LETS + "turn 1;go 1;rest", 6, 76);
        fine(EIGHT_LETS + "turn 1;go 1;  \n");
    }

    /** Of what one text told or left open nothing is left for the next. */
    private static void oneBehindTheOther() {
        ManyEyes eyes = new ManyEyes(4, 4);
        CHECK.due("tells A", Check.rule(eyes, "let A 9999;turn 1;"), 0);
        CHECK.due("A is not told", Check.rule(eyes, "go A;"), -1);
        CHECK.due("fault", eyes.fault(0), 5);
        CHECK.due("leaves eight open", Check.rule(eyes, "go ((((((((;"), -1);
        CHECK.due("fault 1", eyes.fault(0), 1);
        CHECK.due("opens eight", Check.rule(eyes, "turn ((((((((1))))))));"), 1);
        CHECK.due("no fault", eyes.fault(0), 0);
        CHECK.due("no place", eyes.fault(1), -1);
        CHECK.due("an empty one", Check.rule(eyes, ""), 2);
        CHECK.due("flies", eyes.fly(2, 8, 8, 8, 3, 4), 3);
        CHECK.due("without turning", eyes.flown(2), 8);
        CHECK.due("or running over", eyes.flown(5), 0);
    }

    private static void manyTokens() {
        faulty(";".repeat(300), 1, 0);
        faulty("go " + "(".repeat(297), 3, 11);
        faulty("go 1" + ";".repeat(296), 1, 5);
        faulty("a1".repeat(150), 1, 0);
        faulty("go " + "1".repeat(297), 2, 3);
        faulty("go " + "a".repeat(297), 1, 3);
        faulty(" ".repeat(299) + "x", 1, 299);
        faulty(" ".repeat(298) + "go", 1, 300);
        fine(" ".repeat(300));
        fine("\n".repeat(280) + "rest tick>=1 or 1=1;");
    }

    private static void theFirstAndTheLeast() {
        faulty("go A 10000", 5, 3);
        faulty("go 10000 A", 2, 3);
        faulty("go 1 10000;", 1, 5);
        faulty("go 1 A;", 1, 5);
        faulty("let 10000 1;", 1, 4);
        faulty("go 1;go (((((((((1", 4, 5);
        faulty("go lens A;", 1, 8);
        String longest = "go  1" + "+1".repeat(147);
        fine(longest + ";");
        faulty(longest + "+", 1, 300);
    }
}
