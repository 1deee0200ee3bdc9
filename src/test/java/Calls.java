import java.io.IOException;
import java.lang.reflect.InvocationTargetException;
import java.lang.reflect.Method;
import java.lang.reflect.Modifier;
import java.nio.file.Files;
import java.nio.file.Path;
import java.util.HashMap;
import java.util.Map;
import java.util.function.Supplier;
import java.util.regex.Matcher;
import java.util.regex.Pattern;

/** Calls told as texts with the answers that are due, such as "ray(8, 8, 63, 0, true) = 41". */
final class Calls {
    private static final Path DOCUMENT = Path.of("../shared/DOC.md");
    private static final Pattern CALL = Pattern.compile("(\\w+)\\(([^)]*)\\) = (-?\\w+)");
    private static final Map<String, Method> FACE = face();

    private final Check check;
    private final String document;
    private String sentence = "";

    Calls(Check check) {
        this.check = check;
        document = document();
    }

    /** What follows tests this sentence. A document that no longer holds it is a notice, not a fault of the class. */
    void says(String told) {
        sentence = told + " | ";
        if (!document.isEmpty() && !document.contains(told)) {
            System.out.println("notice: the document does not say: " + told);
        }
    }

    void due(String call, long got, long want) {
        check.due(sentence + call, got, want);
    }

    void due(String call, boolean got, boolean want) {
        check.due(sentence + call, got, want);
    }

    /** One call behind the other, on one object. */
    void answers(ManyEyes eyes, String... calls) {
        for (String told : calls) {
            Matcher call = parsed(told);
            due(told, answer(eyes, call), valueOf(call.group(3)));
        }
    }

    /** Each call on a new object; all that the object tells is then as without the call. */
    void changesNothing(Supplier<ManyEyes> making, String... calls) {
        String without = Told.of(making.get());
        for (String told : calls) {
            ManyEyes eyes = making.get();
            answers(eyes, told);
            due(told + " changes nothing", Told.of(eyes).equals(without), true);
        }
    }

    private static Matcher parsed(String told) {
        Matcher call = CALL.matcher(told);
        if (!call.matches() || !FACE.containsKey(call.group(1))) {
            throw new IllegalArgumentException(told);
        }
        return call;
    }

    private static long answer(ManyEyes eyes, Matcher call) {
        Method method = FACE.get(call.group(1));
        String[] told = call.group(2).isBlank() ? new String[0] : call.group(2).split(",");
        Class<?>[] kinds = method.getParameterTypes();
        Object[] arguments = new Object[told.length];
        for (int i = 0; i < told.length; i++) {
            long value = valueOf(told[i].strip());
            if (kinds[i] == boolean.class) {
                arguments[i] = value == 1;
            } else {
                arguments[i] = (int) value;
            }
        }
        try {
            Object got = method.invoke(eyes, arguments);
            return got instanceof Boolean so ? (so ? 1 : 0) : (Integer) got;
        } catch (IllegalAccessException | InvocationTargetException thrown) {
            throw new IllegalStateException(call.group(), thrown);
        }
    }

    private static long valueOf(String told) {
        return switch (told) {
            case "true" -> 1;
            case "false" -> 0;
            case "NONE" -> -1;
            case "NOTICK" -> -10000000;
            case "MIN" -> Integer.MIN_VALUE;
            case "MAX" -> Integer.MAX_VALUE;
            default -> Long.parseLong(told);
        };
    }

    private static Map<String, Method> face() {
        Map<String, Method> found = new HashMap<>();
        for (Method method : ManyEyes.class.getDeclaredMethods()) {
            if (Modifier.isPublic(method.getModifiers())) {
                found.put(method.getName(), method);
            }
        }
        return found;
    }

    private static String document() {
        try {
            return Files.exists(DOCUMENT) ? Files.readString(DOCUMENT) : "";
        } catch (IOException thrown) {
            throw new IllegalStateException(thrown);
        }
    }
}
