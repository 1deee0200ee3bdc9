import java.util.function.Supplier;

/** The edges of promises 13 to 16 and of the texts of rules, sentence by sentence. */
public final class EdgeTextTest {
    private static final Check CHECK = new Check("EdgeTextTest");
    private static final Calls CALLS = new Calls(CHECK);
    private static final int NONE = ManyEyes.NONE;
    private static final String TEN = "let A 1;let B 1;let C 1;let D 1;let E 1;let F 1;let G 1;let H 1;turn 1;go 1;";

    public static void main(String[] args) {
        theHighestFirst();
        atMostThreeHundred();
        firstBytesAlone();
        endsOut();
        emptyThen();
        withAFault();
        eightRules();
        longTexts();
        latestText();
        faultsOut();
        blanks();
        noTokens();
        theLongestTokens();
        wordsAndLetters();
        numbers();
        numbersOfLensesAndPairs();
        endOfTheText();
        tooDeep();
        tooDeepMixed();
        closedAgain();
        secondTimes();
        toldAhead();
        tenClauses();
        theFirstFault();
        theLeastFault();
        CHECK.end();
    }

    private static Supplier<ManyEyes> withTape(String text) {
        return () -> {
            ManyEyes eyes = Worlds.furnished();
            Check.type(eyes, text);
            return eyes;
        };
    }

    private static void fine(String text) {
        faulty(text, 0, NONE);
    }

    private static void faulty(String text, int fault, int place) {
        ManyEyes eyes = new ManyEyes(4, 4);
        CALLS.due("rule of " + text, Check.rule(eyes, text), fault == 0 ? 0 : NONE);
        CALLS.due("fault of " + text, eyes.fault(0), fault);
        CALLS.due("place in " + text, eyes.fault(1), place);
        CALLS.due("rules behind " + text, eyes.about(5), fault == 0 ? 1 : 0);
    }

    private static void theHighestFirst() {
        CALLS.says("Twenty bytes come behind the tape, the highest of a first: how many it has.");
        for (int bad : new int[] {0x80, 0xff, 0, '!', 0x7f}) {
            for (int at = 0; at < 20; at++) {
                int[] five = new int[5];
                for (int i = 0; i < 20; i++) {
                    five[i / 4] = five[i / 4] << 8 | (i == at ? bad : ' ');
                }
                ManyEyes eyes = new ManyEyes(4, 4);
                CALLS.due("twenty", eyes.feed(five[0], five[1], five[2], five[3], five[4]), 20);
                CALLS.due("byte " + bad + " at " + at, eyes.rule(), NONE);
                CALLS.due("fault of " + bad + " at " + at, eyes.fault(0), 1);
                CALLS.due("place of " + bad + " at " + at, eyes.fault(1), at);
            }
        }
        CALLS.answers(new ManyEyes(4, 4), "feed(0, 0, 0, 0, 0) = 20", "feed(-1, -1, -1, -1, -1) = 40",
            "feed(MIN, MAX, MIN, MAX, 0) = 60", "about(7) = 60");
    }

    private static void atMostThreeHundred() {
        CALLS.says("NONE, and none come, if there would be more than 300.");
        ManyEyes eyes = new ManyEyes(4, 4);
        for (int had = 0; had < 300; had += 20) {
            CALLS.due("behind " + had, eyes.feed(1, 2, 3, 4, 5), had + 20);
        }
        CALLS.answers(eyes, "feed(1, 2, 3, 4, 5) = NONE", "about(7) = 300", "end(280) = 280", "feed(1, 2, 3, 4, 5) = 300");
        for (int had = 281; had <= 300; had++) {
            CALLS.changesNothing(withTape(" ".repeat(had - 5) + "go 3;"), "feed(0, 0, 0, 0, 0) = NONE");
        }
        ManyEyes fits = withTape(" ".repeat(275) + "go 3;").get();
        CALLS.answers(fits, "about(7) = 280", "feed(1953853984, 892010528, 538976288, 538976288, 538976288) = 300");
        CALLS.changesNothing(Worlds::full, "feed(0, 0, 0, 0, 0) = NONE", "feed(-1, -1, -1, -1, -1) = NONE");
    }

    private static void firstBytesAlone() {
        CALLS.says("The tape has its first n bytes alone: n.");
        ManyEyes eyes = new ManyEyes(4, 4);
        Check.type(eyes, "go 123;turn 5;");
        CALLS.answers(eyes, "end(14) = 14", "about(7) = 14", "end(4) = 4", "about(7) = 4", "end(5) = NONE",
            "feed(991965730, 1850023968, 538976288, 538976288, 538976288) = 24", "rule() = NONE", "fault(1) = 6");
        Check.type(eyes, "go 123;turn 5;");
        eyes.end(4);
        int blanks = 0x20202020;
        CALLS.due("a ; behind four", eyes.feed(0x3b202020, blanks, blanks, blanks, blanks), 24);
        CALLS.answers(eyes, "rule() = 0", "fly(0, 8, 8, 8, 1, 0) = 1", "tick(0, 1) = 1", "tick(0, 0) = 0");
        Check.type(eyes, "go A;");
        CALLS.answers(eyes, "end(0) = 0", "about(7) = 0", "end(0) = 0", "rule() = 1", "fault(0) = 0");
    }

    private static void endsOut() {
        CALLS.says("NONE, and nothing is done, if it has not so many, or n is below 0.");
        CALLS.changesNothing(Worlds::furnished, "end(13) = NONE", "end(-1) = NONE", "end(MIN) = NONE", "end(MAX) = NONE",
            "end(300) = NONE", "end(12) = 12");
        CALLS.changesNothing(Worlds::full, "end(301) = NONE", "end(-1) = NONE", "end(300) = 300");
        CALLS.changesNothing(Worlds::fresh, "end(1) = NONE", "end(-1) = NONE", "end(0) = 0");
    }

    private static void emptyThen() {
        CALLS.says("The tape (empty then) is a RULE: its number.");
        ManyEyes eyes = new ManyEyes(4, 4);
        CALLS.answers(eyes, "rule() = 0", "about(7) = 0", "about(5) = 1", "fault(0) = 0", "fault(1) = NONE",
            "fly(0, 8, 8, 8, 60, 0) = 60");
        Check.type(eyes, "go 2;");
        CALLS.answers(eyes, "about(7) = 5", "rule() = 1", "about(7) = 0", "end(1) = NONE", "rule() = 2",
            "fly(1, 8, 8, 8, 1, 0) = 1", "tick(0, 1) = 2", "fly(2, 8, 8, 8, 1, 0) = 1", "tick(0, 1) = 0");
    }

    private static void withAFault() {
        CALLS.says("NONE: it has a FAULT");
        ManyEyes eyes = Worlds.furnished();
        Check.type(eyes, "go 7;turn x;");
        CALLS.answers(eyes, "rule() = NONE", "about(5) = 3", "fault(0) = 1", "fault(1) = 10", "about(7) = 0",
            "fly(3, 8, 8, 8, 1, 0) = NONE", "kept(3) = NONE", "rule() = 3", "fly(3, 8, 8, 8, 1, 0) = 1", "tick(0, 1) = 0");
    }

    private static void eightRules() {
        CALLS.says("or (the tape stays) there are 8.");
        ManyEyes eyes = new ManyEyes(4, 4);
        for (int i = 0; i < 8; i++) {
            CALLS.due("rules ahead of " + i, eyes.about(5), i);
            CALLS.due("rule " + i, Check.rule(eyes, "turn " + i + ";"), i);
        }
        CALLS.due("the ninth", Check.rule(eyes, "turn 8;"), NONE);
        CALLS.answers(eyes, "about(5) = 8", "about(7) = 7", "rule() = NONE", "about(7) = 7", "fault(0) = 0",
            "fault(1) = NONE", "fly(7, 8, 8, 8, 1, 0) = 1", "tick(0, 0) = 7", "fly(8, 8, 8, 8, 1, 0) = NONE",
            "back() = 0", "about(7) = 7", "rule() = 0", "fly(0, 8, 8, 8, 1, 0) = 1", "tick(0, 0) = 8");
        CALLS.changesNothing(Worlds::full, "rule() = NONE");
        CALLS.changesNothing(() -> {
            ManyEyes faulty = Worlds.full();
            Check.type(faulty, "go A;");
            return faulty;
        }, "rule() = NONE");
    }

    private static void longTexts() {
        CALLS.says("RULES 0 .. 7: texts of up to 300 bytes.");
        fine(" ".repeat(300));
        fine("go 1;" + " ".repeat(295));
        fine(" ".repeat(295) + "go 1;");
        fine("go  1" + "+1".repeat(147) + ";");
        faulty("go  1" + "+1".repeat(147) + "+", 1, 300);
        faulty(" ".repeat(296) + "go 1", 1, 300);
        faulty(" ".repeat(299) + ";", 1, 299);
        faulty(";".repeat(300), 1, 0);
        faulty("go1" + ";".repeat(297), 1, 4);
        fine("go-" + "1-".repeat(147) + "1 ;");
        fine("go-1" + "*-1+-1".repeat(49) + ";\n");
        faulty("go " + "9".repeat(296) + ";", 2, 3);
        fine("go " + "0".repeat(292) + "9999;");
        faulty("go " + "0".repeat(291) + "10000;", 2, 3);
        ManyEyes eyes = new ManyEyes(4, 4);
        Check.rule(eyes, "go  1" + "+1".repeat(147) + ";");
        Check.rule(eyes, "turn" + " ".repeat(294) + "5;");
        CALLS.answers(eyes, "fly(0, 8, 8, 8, 1, 0) = 1", "tick(0, 1) = 16", "fly(1, 8, 8, 8, 1, 0) = 1", "tick(0, 0) = 5");
    }

    private static void latestText() {
        CALLS.says("Of the latest text that was read: 0 its FAULT (0 without), 1 its place (NONE without).");
        ManyEyes eyes = new ManyEyes(4, 4);
        CALLS.due("one with a fault", Check.rule(eyes, " go A;"), NONE);
        CALLS.answers(eyes, "fault(0) = 5", "fault(1) = 4", "fault(0) = 5", "feed(0, 0, 0, 0, 0) = 20", "fault(0) = 5",
            "end(0) = 0", "fault(1) = 4");
        CALLS.due("one without", Check.rule(eyes, "go 1;"), 0);
        CALLS.answers(eyes, "fault(0) = 0", "fault(1) = NONE");
        CALLS.due("one with a fault at 0", Check.rule(eyes, "x"), NONE);
        CALLS.answers(eyes, "fault(0) = 1", "fault(1) = 0", "rule() = 1", "fault(0) = 0", "fault(1) = NONE");
    }

    private static void faultsOut() {
        CALLS.says("NONE for others, and ahead of any.");
        CALLS.changesNothing(Worlds::fresh, "fault(0) = NONE", "fault(1) = NONE", "fault(-1) = NONE", "fault(2) = NONE");
        CALLS.changesNothing(Worlds::furnished, "fault(-1) = NONE", "fault(2) = NONE", "fault(MIN) = NONE",
            "fault(MAX) = NONE", "fault(0) = 5", "fault(1) = 3");
        CALLS.changesNothing(Worlds::full, "fault(-1) = NONE", "fault(2) = NONE", "fault(0) = 0", "fault(1) = NONE");
    }

    /** Each of the 256 bytes, alone and within a clause. */
    private static void blanks() {
        CALLS.says("TOKENS, blanks (32, 10) aside");
        for (int c = 0; c < 256; c++) {
            boolean blank = c == 32 || c == 10;
            String sign = String.valueOf((char) c);
            faulty(sign, blank ? 0 : 1, blank ? NONE : 0);
            faulty("go 1" + sign.repeat(3) + ";", blank ? 0 : faultWithin(c), blank ? NONE : placeWithin(c));
            boolean fine = blank || c == '-' || c >= '0' && c <= '9';
            faulty("go" + sign + "1;", fine ? 0 : 1, fine ? NONE : placeBehindGo(c));
        }
    }

    private static int faultWithin(int c) {
        return c >= '0' && c <= '9' ? 0 : 1;
    }

    /** Behind 1 a sign of reckoning can stand, - can be one ONE's, too, and digits go on with the number. */
    private static int placeWithin(int c) {
        if (c >= '0' && c <= '9') {
            return NONE;
        }
        if (c == ';') {
            return 5;
        }
        if (c == '-') {
            return 7;
        }
        return "+*/".indexOf(c) >= 0 ? 5 : 4;
    }

    private static int placeBehindGo(int c) {
        boolean letter = c >= 'a' && c <= 'z' || c >= 'A' && c <= 'Z';
        return letter ? 0 : c == '(' ? 4 : 2;
    }

    private static void noTokens() {
        CALLS.says("1 it can't stand there, or is none.");
        for (String none : new String[] {"!", "\"", "$", "%", "&", "'", ".", ":", "?", "@", "[", "\\", "]", "^", "_", "`",
            "{", "|", "}", "~", "\t", "\r", "\u0000", "\u007f", "\u0080", "\u00a0", "\u00ff"}) {
            faulty("go 1;" + none, 1, 5);
            faulty("go " + none + ";", 1, 3);
            faulty("rest 1 " + none + " 2;", 1, 7);
            faulty("let " + none + " 1;", 1, 4);
        }
    }

    private static void theLongestTokens() {
        CALLS.says("<= >= < > = # + - * / ( ) , ; (the longest)");
        for (String sign : new String[] {"<", "<=", ">", ">=", "=", "#"}) {
            fine("rest 1" + sign + "2;");
            fine("rest 1 " + sign + " 2;");
            fine("rest 1" + sign + "-2;");
        }
        faulty("rest 1< =2;", 1, 8);
        faulty("rest 1>\n=2;", 1, 8);
        faulty("rest 1<==2;", 1, 8);
        faulty("rest 1>==2;", 1, 8);
        faulty("rest 1==2;", 1, 7);
        faulty("rest 1=<2;", 1, 7);
        faulty("rest 1=>2;", 1, 7);
        faulty("rest 1<>2;", 1, 7);
        faulty("rest 1><2;", 1, 7);
        faulty("rest 1##2;", 1, 7);
        faulty("rest 1#=2;", 1, 7);
        faulty("rest 1<<=2;", 1, 7);
    }

    private static void wordsAndLetters() {
        CALLS.says("letters a .. z, A .. Z one behind the other (one TOKEN), digits likewise");
        fine("go1;turn2;rest3<4;let A5;");
        fine("let A tick;let B tick;");
        faulty("let Btick;", 1, 4);
        faulty("goto 1;", 1, 0);
        faulty("g o 1;", 1, 0);
        faulty("Go 1;", 1, 0);
        faulty("GO 1;", 1, 0);
        faulty("go1 2;", 1, 4);
        faulty("go 1 2;", 1, 5);
        faulty("go lens1 2;", 1, 9);
        fine("go lens12;");
        faulty("go tickz;", 1, 3);
        faulty("go aztick;", 1, 3);
        faulty("go AZ;", 1, 3);
        faulty("resttick=1;", 1, 0);
        fine("rest tick=1or 2=3and not4=5;");
        faulty("rest tick=1ornot 4=5;", 1, 11);
        CALLS.says("(LETTER: one TOKEN of A .. H)");
        for (char c = 'A'; c <= 'Z'; c++) {
            boolean letter = c <= 'H';
            faulty("let " + c + " 1;", letter ? 0 : 1, letter ? NONE : 4);
            faulty("go " + c + ";", letter ? 5 : 1, 3);
            faulty("let " + c + c + " 1;", 1, 4);
            faulty("let " + Character.toLowerCase(c) + " 1;", 1, 4);
            faulty("go " + Character.toLowerCase(c) + ";", 1, 3);
        }
    }

    private static void numbers() {
        CALLS.says("2 a NUMBER that isn't one of those told.");
        fine("go 0;");
        fine("go 9999;");
        fine("go 00;");
        fine("go 09999;");
        faulty("go 10000;", 2, 3);
        faulty("go 99999;", 2, 3);
        faulty("go 010000;", 2, 3);
        faulty("go -10000;", 2, 4);
        faulty("go 2147483648;", 2, 3);
        faulty("go 4294967296;", 2, 3);
        faulty("go 4294967297;", 2, 3);
        faulty("go 18446744073709551616;", 2, 3);
        faulty("let A 10000;", 2, 6);
        faulty("rest 10000=1;", 2, 5);
        faulty("rest 1=10000;", 2, 7);
        faulty("turn min(1,10000);", 2, 11);
    }

    private static void numbersOfLensesAndPairs() {
        CALLS.says("lens NUMBER (0 .. 15; its TAKE; 0 if it isn't there); or pair NUMBER (0 .. 15) likewise");
        for (String word : new String[] {"lens", "pair"}) {
            for (int number : new int[] {0, 1, 14, 15}) {
                fine("go " + word + " " + number + ";");
            }
            fine("go " + word + " 0015;");
            faulty("go " + word + " 16;", 2, 8);
            faulty("go " + word + " 0016;", 2, 8);
            faulty("go " + word + " 9999;", 2, 8);
            faulty("go " + word + " 10000;", 2, 8);
            faulty("go " + word + " 4294967296;", 2, 8);
            faulty("go " + word + " -1;", 1, 8);
            faulty("go " + word + " tick;", 1, 8);
            faulty("go " + word + ";", 1, 7);
            faulty("go " + word, 1, 7);
        }
        ManyEyes eyes = new ManyEyes(4, 4);
        Check.rule(eyes, "turn lens 0+lens 1;go pair 0+pair 15+lens 15;");
        eyes.mark(3, 5);
        CALLS.answers(eyes, "fly(0, 8, 8, 8, 1, 0) = 1", "tick(0, 0) = 0", "tick(0, 1) = 0", "lens(0, 0) = 0",
            "fly(0, 8, 8, 8, 1, 0) = 1", "tick(0, 0) = 5", "lens(0, 0) = 1", "fly(0, 8, 8, 8, 1, 0) = 1",
            "tick(0, 0) = 8", "tick(0, 1) = 0");
    }

    private static void endOfTheText() {
        CALLS.says("at the TOKEN's first byte (of the end at the length)");
        String[] tokens = {"let", "A", "-", "(", "1", "+", "lens", "2", ")", "*", "min", "(", "tick", ",", "pair", "3", ")",
            ";"};
        StringBuilder text = new StringBuilder();
        fine("");
        for (int i = 0; i < tokens.length; i++) {
            text.append(tokens[i]);
            boolean whole = i == tokens.length - 1;
            faulty(text.toString(), whole ? 0 : 1, whole ? NONE : text.length());
            faulty(text + " \n ", whole ? 0 : 1, whole ? NONE : text.length() + 3);
            text.append(i % 2 == 0 ? " " : "\n");
        }
        StringBuilder rest = new StringBuilder();
        for (String token : new String[] {"go", "1", ";", "rest", "not", "1", "<=", "2", "and", "3", "#", "4", "or", "5",
            ">", "6"}) {
            rest.append(token);
            boolean whole = token.equals(";");
            faulty(rest.toString(), whole ? 0 : 1, whole ? NONE : rest.length());
            rest.append(" ");
        }
        fine(rest + ";");
    }

    private static void tooDeep() {
        CALLS.says("3 the 9th of ( not and - (of one ONE) that are open around one another (at it; min and max at their ( ).");
        for (int n = 1; n <= 12; n++) {
            int deep = n <= 8 ? 0 : 3;
            faulty("go " + "(".repeat(n) + "1" + ")".repeat(n) + ";", deep, n <= 8 ? NONE : 3 + 8);
            faulty("go " + "-".repeat(n) + "1;", deep, n <= 8 ? NONE : 3 + 8);
            faulty("rest " + "not ".repeat(n) + "1=1;", deep, n <= 8 ? NONE : 5 + 4 * 8);
            faulty("go " + "min(".repeat(n) + "1" + ",2)".repeat(n) + ";", deep, n <= 8 ? NONE : 3 + 4 * 8 + 3);
            faulty("go " + "max(2,".repeat(n) + "1" + ")".repeat(n) + ";", deep, n <= 8 ? NONE : 3 + 6 * 8 + 3);
            faulty("let A " + "-(".repeat(n) + "1" + ")".repeat(n) + ";", n <= 4 ? 0 : 3, n <= 4 ? NONE : 6 + 8);
        }
    }

    private static void tooDeepMixed() {
        CALLS.says("that are open around one another");
        fine("rest not not not -(-(min(1,2)))=1;");
        faulty("rest not not not -(-(min(-1,2)))=1;", 3, 25);
        faulty("rest not not not -(-(min(1,2)))=-(-(max(1,-(1))));", 3, 42);
        fine("rest not not not 1=-(-(max(1,1)));");
        faulty("rest not not not not not not not not -1=1;", 3, 37);
        faulty("rest not not not not not not not not 1=-1;", 3, 39);
        faulty("rest not not not not not not not not (1)=1;", 3, 37);
        faulty("rest not not not not not not not not min(1,2)=1;", 3, 40);
        fine("rest not not not not not not not -1=-1;");
        faulty("go ((((((((1)+(1)))))))*((((((((-1))))))));", 3, 31);
        fine("go (((((((1)+(1)))))))*((((((((1))))))));");
        faulty("go (((((((1)+(1)))))))*((((((((-1))))))));", 3, 31);
        faulty("go ((((((((max 1))))))));", 1, 15);
        faulty("go ((((((((max(1", 3, 14);
    }

    private static void closedAgain() {
        CALLS.says("the 9th of ( not and - (of one ONE)");
        fine("go " + "-1".repeat(40) + ";");
        fine("go 1" + "--1".repeat(40) + ";");
        fine("go 1" + "-(-1)".repeat(40) + ";");
        fine("go 1" + "*-1".repeat(40) + ";");
        fine("go --------1---------1;");
        faulty("go --------1----------1;", 3, 21);
        fine("go (1)" + "+(1)".repeat(40) + ";");
        fine("go min(1,1)" + "+max(1,1)".repeat(20) + ";");
        fine("rest not 1=1" + " or not 1=1".repeat(20) + ";");
        fine("rest not not 1=1" + " and not not 1=1".repeat(15) + ";");
        fine("let A ((((((((1))))))));let B ((((((((1))))))));turn --------1;rest not not not not not not not not 1=1;");
        fine("go ((((((((1-1-1-1))))))));");
        fine("go min((((((((1))))))),(((((((2))))))));");
        fine("rest not not not not not not not (1)=(1) or not not not not not not not not 1=1;");
        fine("rest not not not not not not not not 1=1 or (1)=(1) and not (1)=-1;");
        ManyEyes eyes = new ManyEyes(4, 4);
        CALLS.due("eight are left open", Check.rule(eyes, "go ((((((((1"), NONE);
        CALLS.due("none is open in the next text", Check.rule(eyes, "go ((((((((1))))))));"), 0);
        CALLS.due("one with a great number", Check.rule(eyes, "go 9999;"), 1);
        CALLS.due("an empty one", Check.rule(eyes, ""), 2);
        CALLS.answers(eyes, "fly(1, 8, 8, 8, 1, 4) = 1", "flown(5) = 1", "fly(2, 8, 8, 8, 1, 4) = 1", "flown(5) = 0",
            "tick(0, 1) = 0");
    }

    private static void secondTimes() {
        CALLS.says("4 turn, go, rest for the second time (at it); a let's LETTER likewise.");
        fine("turn 1;go 1;rest 1=1;");
        faulty("turn 1;turn", 4, 7);
        faulty("go 1;\n go 1;", 4, 7);
        faulty("rest 1=1;rest 1=1;", 4, 9);
        faulty("turn 1;go 1;rest 1=1;turn 1;", 4, 21);
        faulty("rest 1=1;turn 1;go 1;rest 1=1;", 4, 21);
        for (char c = 'A'; c <= 'H'; c++) {
            faulty("let " + c + " 1;let " + c + " 2;", 4, 12);
            faulty("let " + c + " 1;let " + c, 4, 12);
        }
        fine("let A 1;let B 1;let C 1;let D 1;let E 1;let F 1;let G 1;let H 1;");
        ManyEyes eyes = new ManyEyes(4, 4);
        CALLS.due("turn in a text", Check.rule(eyes, "turn 1;let A 1;"), 0);
        CALLS.due("and in the next", Check.rule(eyes, "turn 1;let A 1;"), 1);
    }

    private static void toldAhead() {
        CALLS.says("5 a LETTER in a SUM that wasn't told ahead.");
        for (char c = 'A'; c <= 'H'; c++) {
            faulty("turn " + c + ";", 5, 5);
            faulty("let " + c + " " + c + ";", 5, 6);
            faulty("let " + c + " 1+" + c + ";", 5, 8);
            fine("let " + c + " 1;turn " + c + ";go " + c + ";rest " + c + "=" + c + ";");
        }
        faulty("turn A;let A 1;", 5, 5);
        faulty("let A 1;let B A;let C D;let D 1;", 5, 22);
        faulty("rest A=1;", 5, 5);
        faulty("rest 1=A;", 5, 7);
        faulty("turn max(1,A);", 5, 11);
        faulty("turn -A;", 5, 6);
        ManyEyes eyes = new ManyEyes(4, 4);
        CALLS.due("A in a text", Check.rule(eyes, "let A 1;turn A;"), 0);
        CALLS.due("is not told in the next", Check.rule(eyes, "turn A;"), NONE);
        CALLS.answers(eyes, "fault(0) = 5", "fault(1) = 5");
    }

    private static void tenClauses() {
        CALLS.says("{CLAUSE}, 10 at most.");
        fine(TEN);
        fine(TEN + " \n");
        fine(TEN.substring(0, 71));
        CALLS.says("6 the 11th CLAUSE (at its first TOKEN).");
        faulty(TEN + "rest 1=1;", 6, 76);
        faulty(TEN + " rest 1=1;", 6, 77);
        faulty(TEN + "rest", 6, 76);
        faulty(TEN + "let A 1;", 6, 76);
        faulty(TEN + "let", 6, 76);
        faulty(TEN.replace("go 1;", "") + "rest 1=1;go 1;", 6, 80);
        ManyEyes eyes = new ManyEyes(4, 4);
        Check.rule(eyes, TEN);
        CALLS.answers(eyes, "fly(0, 8, 8, 8, 1, 0) = 1", "tick(0, 0) = 1", "tick(0, 1) = 1");
    }

    private static void theFirstFault() {
        CALLS.says("FAULTS, the first as TOKENS are come to");
        faulty("go A 10000 ! go", 5, 3);
        faulty("go 10000 A ! go", 2, 3);
        faulty("go ! A 10000", 1, 3);
        faulty("go 1;go 10000;", 4, 5);
        faulty("go 1;turn A;go 2;!", 5, 10);
        faulty("go (((((((((A", 3, 11);
        faulty("go ((((((((A(", 5, 11);
        faulty(TEN + "rest !", 6, 76);
        faulty("let A !;let A 1;", 1, 6);
        faulty("let A 1;let A A;", 4, 12);
    }

    private static void theLeastFault() {
        CALLS.says("of one the least");
        faulty("go 1 10000;", 1, 5);
        faulty("10000;", 1, 0);
        faulty("let 10000 1;", 1, 4);
        faulty("go 1 A;", 1, 5);
        faulty("A", 1, 0);
        faulty("go lens A;", 1, 8);
        faulty("go ((((((((1(", 1, 12);
        faulty("go ((((((((1 not", 1, 13);
        faulty("rest not not not not not not not not 1 not", 1, 39);
        faulty("rest not not not not not not not not 1=not", 1, 39);
        faulty("turn 1 turn 2;", 1, 7);
        faulty("turn turn", 1, 5);
        faulty("go 1;turn go", 1, 10);
        faulty(TEN + "go 1;", 4, 76);
        faulty(TEN + "turn 1;", 4, 76);
        faulty(TEN + ";", 1, 76);
        faulty(TEN + "x", 1, 76);
        faulty(TEN + "10000", 1, 76);
        faulty("let A 1;let A", 4, 12);
        faulty("let A 1;let I", 1, 12);
    }
}
