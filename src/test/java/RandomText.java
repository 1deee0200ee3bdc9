import java.util.ArrayList;
import java.util.List;
import java.util.Random;

/** Texts of rules by chance: by the grammar, and then often bent a little. */
final class RandomText {
    private static final String[] WORDS = {"let", "turn", "go", "rest", "or", "and", "not", "lens", "pair", "tick",
        "min", "max", "A", "B", "H", "I", "a", "AB", "tickt", "Go", "0", "7", "15", "16", "9999", "10000", "007",
        "99999999999999999999", "<", "<=", ">", ">=", "=", "#", "+", "-", "*", "/", "(", ")", ",", ";", "!", "\u00e9",
        "\u0000", "\t", "<=="};
    private static final String[] SIGNS = {"<", "<=", ">", ">=", "=", "#"};

    private final Random random;
    private final List<String> tokens = new ArrayList<>();
    private int told;

    private RandomText(Random random) {
        this.random = random;
    }

    static String next(Random random) {
        String text = new RandomText(random).text();
        return text.length() > 300 ? text.substring(0, 300) : text;
    }

    private String text() {
        clauses();
        if (random.nextInt(3) == 0) {
            for (int bends = random.nextInt(3); bends >= 0; bends--) {
                bend();
            }
        }
        StringBuilder text = new StringBuilder(blanks());
        for (int i = 0; i < tokens.size(); i++) {
            boolean needs = i > 0 && ends(tokens.get(i - 1)) && begins(tokens.get(i)) && random.nextInt(40) != 0;
            text.append(needs ? " " : "").append(random.nextInt(4) == 0 ? blanks() : "").append(tokens.get(i));
        }
        return text.append(random.nextInt(4) == 0 ? blanks() : "").toString();
    }

    private String blanks() {
        return switch (random.nextInt(8)) {
            case 0 -> " ";
            case 1 -> "\n";
            case 2 -> "  \n";
            default -> "";
        };
    }

    private static boolean ends(String token) {
        return !token.isEmpty() && Character.isLetterOrDigit(token.charAt(token.length() - 1));
    }

    private static boolean begins(String token) {
        return !token.isEmpty() && Character.isLetterOrDigit(token.charAt(0));
    }

    private void bend() {
        int at = random.nextInt(tokens.size() + 1);
        String word = WORDS[random.nextInt(WORDS.length)];
        switch (random.nextInt(4)) {
            case 0 -> tokens.add(at, word);
            case 1 -> {
                if (at < tokens.size()) {
                    tokens.set(at, word);
                }
            }
            case 2 -> {
                if (at < tokens.size()) {
                    tokens.remove(at);
                }
            }
            default -> tokens.subList(at, tokens.size()).clear();
        }
    }

    private void clauses() {
        List<String> left = new ArrayList<>(List.of("turn", "go", "rest"));
        int lets = random.nextInt(6) == 0 ? 6 + random.nextInt(4) : random.nextInt(3);
        while (lets > 0 || !left.isEmpty()) {
            int drawn = random.nextInt(lets + left.size());
            if (drawn < lets) {
                lets--;
                let();
            } else {
                steer(left.remove(drawn - lets));
            }
        }
    }

    private void let() {
        int letter = told < 8 ? told : random.nextInt(8);
        add("let", String.valueOf((char) ('A' + letter)));
        sum(random.nextInt(3));
        add(";");
        told++;
    }

    private void steer(String word) {
        if (random.nextInt(5) == 0) {
            return;
        }
        add(word);
        if (word.equals("rest")) {
            either();
        } else {
            sum(random.nextInt(4));
        }
        add(";");
    }

    private void either() {
        if (random.nextInt(3) > 0) {
            add("tick", random.nextInt(2) == 0 ? ">" : ">=", String.valueOf(random.nextInt(30)));
        } else {
            ask();
        }
        while (random.nextInt(3) == 0) {
            add(random.nextInt(3) > 0 ? "and" : "or");
            ask();
        }
    }

    private void ask() {
        int most = random.nextInt(30) == 0 ? 8 : 2;
        for (int nots = random.nextInt(most + 1); nots > 0; nots--) {
            add("not");
        }
        sum(random.nextInt(2));
        add(SIGNS[random.nextInt(SIGNS.length)]);
        sum(random.nextInt(2));
    }

    private void sum(int deep) {
        product(deep);
        while (random.nextInt(3) == 0) {
            add(random.nextBoolean() ? "+" : "-");
            product(deep);
        }
    }

    private void product(int deep) {
        one(deep);
        while (random.nextInt(4) == 0) {
            add(random.nextBoolean() ? "*" : "/");
            one(deep);
        }
    }

    private void one(int deep) {
        switch (random.nextInt(deep > 0 ? 13 : 9)) {
            case 0 -> add(number());
            case 1 -> add(String.valueOf(random.nextInt(12)));
            case 2, 3, 4 -> add("lens", String.valueOf(random.nextInt(random.nextInt(20) == 0 ? 18 : 6)));
            case 5, 6 -> add("pair", String.valueOf(random.nextInt(random.nextInt(20) == 0 ? 18 : 5)));
            case 7 -> letter();
            case 8 -> add("tick");
            case 9 -> bracket(deep, "(");
            case 10 -> {
                for (int minus = random.nextInt(random.nextInt(20) == 0 ? 9 : 2); minus >= 0; minus--) {
                    add("-");
                }
                one(deep - 1);
            }
            default -> {
                add(random.nextBoolean() ? "min" : "max");
                bracket(deep, ",");
            }
        }
    }

    private void bracket(int deep, String kind) {
        int most = random.nextInt(20) == 0 ? 8 : 1;
        int more = kind.equals("(") ? random.nextInt(most) : 0;
        add("(");
        for (int i = 0; i < more; i++) {
            add("(");
        }
        sum(deep - 1);
        if (kind.equals(",")) {
            add(",");
            sum(deep - 1);
        }
        for (int i = 0; i < more; i++) {
            add(")");
        }
        add(")");
    }

    private void letter() {
        if (told == 0 && random.nextInt(10) > 0) {
            add("tick");
            return;
        }
        int most = random.nextInt(20) == 0 ? 9 : Math.max(1, Math.min(8, told));
        add(String.valueOf((char) ('A' + random.nextInt(most))));
    }

    private String number() {
        return switch (random.nextInt(8)) {
            case 0 -> "9999";
            case 1 -> "0";
            case 2 -> "00" + random.nextInt(100);
            case 3 -> String.valueOf(random.nextInt(11000));
            default -> String.valueOf(random.nextInt(300));
        };
    }

    private void add(String... words) {
        tokens.addAll(List.of(words));
    }
}
