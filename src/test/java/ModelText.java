import java.math.BigInteger;
import java.util.ArrayList;
import java.util.HashMap;
import java.util.HashSet;
import java.util.List;
import java.util.Map;
import java.util.Set;
import java.util.regex.Matcher;
import java.util.regex.Pattern;

/** A rule's text of the model: reads and reckons at once, along the document's grammar, line by line. */
final class ModelText {
    static final class Fault extends RuntimeException {
        private static final long serialVersionUID = 1L;
        final int code;
        final int place;

        Fault(int code, int place) {
            this.code = code;
            this.place = place;
        }
    }

    record Steer(int turn, int go, boolean rest) { }

    private record Token(String text, int place) { }

    private static final Pattern TOKEN =
        Pattern.compile("[ \n]*([a-zA-Z]+|[0-9]+|<=|>=|[-<>=#+*/(),;]|[^ \n])", Pattern.DOTALL);

    private final List<Token> tokens = new ArrayList<>();
    private final int length;
    private final long bound;
    private final boolean checks;
    private int at;
    private int open;
    private int over;
    private Map<String, Long> letters;
    private List<Integer> takes;
    private List<Integer> pairs;
    private int tick;

    ModelText(String text, int bound) {
        this(text, bound, false);
    }

    private ModelText(String text, int bound, boolean checks) {
        this.bound = bound;
        this.checks = checks;
        length = text.length();
        Matcher matcher = TOKEN.matcher(text);
        for (int from = 0; matcher.find(from); from = matcher.end()) {
            tokens.add(new Token(matcher.group(1), matcher.start(1)));
        }
    }

    /** Null without one. */
    static Fault faultOf(String text) {
        ModelText reading = new ModelText(text, 1000000, true);
        try {
            reading.steer(List.of(), List.of(), 0);
            return null;
        } catch (Fault fault) {
            return fault;
        }
    }

    int over() {
        return over;
    }

    Steer steer(List<Integer> takesNow, List<Integer> pairsNow, int tickNow) {
        takes = takesNow;
        pairs = pairsNow;
        tick = tickNow;
        at = 0;
        open = 0;
        letters = new HashMap<>();
        Set<String> told = new HashSet<>();
        long turn = 0;
        long go = 0;
        boolean rest = false;
        for (int clauses = 1; at < tokens.size(); clauses++) {
            String word = now();
            faultIf(!List.of("let", "turn", "go", "rest").contains(word), 1);
            faultIf(!word.equals("let") && !told.add(word), 4);
            faultIf(clauses > 10, 6);
            at++;
            switch (word) {
                case "let" -> {
                    String letter = now();
                    faultIf(!letter.matches("[A-H]"), 1);
                    faultIf(letters.containsKey(letter), 4);
                    at++;
                    long value = sum();
                    letters.put(letter, value);
                }
                case "turn" -> turn = sum();
                case "go" -> go = sum();
                default -> rest = either();
            }
            pass(";");
        }
        return new Steer((int) Math.max(-8, Math.min(8, turn)), (int) Math.max(0, Math.min(16, go)), rest);
    }

    private String now() {
        return at < tokens.size() ? tokens.get(at).text : "";
    }

    private boolean took(String text) {
        if (now().equals(text)) {
            at++;
            return true;
        }
        return false;
    }

    private void pass(String text) {
        faultIf(!now().equals(text), 1);
        at++;
    }

    private void faultIf(boolean so, int code) {
        if (so) {
            if (!checks) {
                throw new IllegalStateException("a rule that was kept has fault " + code);
            }
            throw new Fault(code, at < tokens.size() ? tokens.get(at).place : length);
        }
    }

    private void opens(String text) {
        faultIf(!now().equals(text), 1);
        faultIf(open == 8, 3);
        open++;
        at++;
    }

    private boolean either() {
        boolean value = both();
        while (took("or")) {
            value |= both();
        }
        return value;
    }

    private boolean both() {
        boolean value = ask();
        while (took("and")) {
            value &= ask();
        }
        return value;
    }

    private boolean ask() {
        if (now().equals("not")) {
            opens("not");
            boolean value = ask();
            open--;
            return !value;
        }
        long left = sum();
        String sign = now();
        faultIf(!List.of("<", "<=", ">", ">=", "=", "#").contains(sign), 1);
        at++;
        long right = sum();
        return switch (sign) {
            case "<" -> left < right;
            case "<=" -> left <= right;
            case ">" -> left > right;
            case ">=" -> left >= right;
            case "=" -> left == right;
            default -> left != right;
        };
    }

    private long sum() {
        long value = product();
        while (now().equals("+") || now().equals("-")) {
            value = took("+") ? bounded(value + product()) : minus(value);
        }
        return value;
    }

    private long minus(long value) {
        at++;
        return bounded(value - product());
    }

    private long product() {
        long value = one();
        while (now().equals("*") || now().equals("/")) {
            if (took("*")) {
                value = bounded(value * one());
            } else {
                at++;
                long by = one();
                value = by == 0 ? 0 : bounded(value / by);
            }
        }
        return value;
    }

    private long one() {
        String text = now();
        if (text.matches("[0-9]+")) {
            return bounded(number(9999));
        }
        if (text.matches("[A-H]")) {
            faultIf(!letters.containsKey(text), 5);
            at++;
            return bounded(letters.get(text));
        }
        switch (text) {
            case "lens":
                at++;
                return bounded(valueOf(takes));
            case "pair":
                at++;
                return bounded(valueOf(pairs));
            case "tick":
                at++;
                return bounded(tick);
            case "(":
                opens("(");
                long inner = sum();
                pass(")");
                open--;
                return inner;
            case "-":
                opens("-");
                long negated = bounded(-one());
                open--;
                return negated;
            case "min":
            case "max":
                at++;
                opens("(");
                long left = sum();
                pass(",");
                long right = sum();
                pass(")");
                open--;
                return text.equals("min") ? Math.min(left, right) : Math.max(left, right);
            default:
                faultIf(true, 1);
                return 0;
        }
    }

    private int valueOf(List<Integer> values) {
        int number = number(15);
        return number < values.size() ? values.get(number) : 0;
    }

    private int number(int most) {
        String text = now();
        faultIf(!text.matches("[0-9]+"), 1);
        faultIf(new BigInteger(text).compareTo(BigInteger.valueOf(most)) > 0, 2);
        at++;
        return Integer.parseInt(text);
    }

    private long bounded(long value) {
        if (Math.abs(value) > bound) {
            over++;
            return value > 0 ? bound : -bound;
        }
        return value;
    }
}
