/** Counts the answers that are not as due, and feeds texts. */
final class Check {
    private final String name;
    private int asked;
    private int wrong;

    Check(String name) {
        this.name = name;
    }

    void due(String call, long got, long want) {
        asked++;
        if (got != want) {
            wrong++;
            System.out.println(name + ": " + call + " answered " + got + ", due is " + want);
        }
    }

    void due(String call, boolean got, boolean want) {
        due(call, got ? 1 : 0, want ? 1 : 0);
    }

    void end() {
        System.out.println(name + ": " + asked + " answers, " + wrong + " wrong");
        if (wrong != 0 || asked == 0) {
            System.exit(1);
        }
    }

    /** Puts the text on the tape in place of what is there. */
    static void type(ManyEyes eyes, String text) {
        eyes.end(0);
        for (int from = 0; from < text.length(); from += 20) {
            eyes.feed(four(text, from), four(text, from + 4), four(text, from + 8),
                four(text, from + 12), four(text, from + 16));
        }
        eyes.end(text.length());
    }

    static int rule(ManyEyes eyes, String text) {
        type(eyes, text);
        return eyes.rule();
    }

    static int four(String text, int from) {
        int packed = 0;
        for (int i = from; i < from + 4; i++) {
            packed = packed << 8 | (i < text.length() ? text.charAt(i) & 255 : 0);
        }
        return packed;
    }
}
