import java.io.IOException;
import java.lang.reflect.Constructor;
import java.lang.reflect.Field;
import java.lang.reflect.Method;
import java.lang.reflect.Modifier;
import java.nio.file.Files;
import java.nio.file.Path;
import java.util.Set;
import java.util.TreeSet;
import java.util.regex.Pattern;

/** The public face, and the rules of the language that can be told from the text. */
public final class FaceTest {
    private static final Check CHECK = new Check("FaceTest");
    private static final String FACE = """
        boolean mark 2 ii; int body 4 iiii; int markOf 2 ii; int lens 2 ii; int pair 3 iii; int ray 5 iiiib;
        int take 5 iiiii; int covered 1 i; int ends 5 iiiib; int width 5 iiiii; int same 6 iiiiii; int feed 5 iiiii;
        int end 1 i; int rule 0 ; int fault 1 i; int fly 6 iiiiii; int flown 1 i; int tick 2 ii; int safe 8 iiiiiiii;
        int read 3 iii; int turned 2 ii; int kept 1 i; int parts 2 ii; int image 0 ; int back 0 ; int about 1 i;
        """;
    private static final String[] BARRED = {"\\bthrow\\b", "\\bthrows\\b", "\\btry\\b", "\\bcatch\\b",
        "\\bsynchronized\\b", "\\bassert\\b", "->", "::", "Exact\\b", "\\bthis\\.getClass\\b", "\\bObject\\b",
        "\\bSystem\\.(?!arraycopy)", "\\bvolatile\\b", "\\bThread\\b", "\\bRandom\\b", "\\bhashCode\\b", "\\btoString\\b",
        "static \\{", "\\bwhile \\(true\\)", "for \\(;;\\)", "\\bpackage\\b", "\\bStream\\b", "\\bMap\\b"};

    public static void main(String[] args) throws IOException {
        face();
        inside();
        text();
        CHECK.end();
    }

    private static void face() {
        Class<?> type = ManyEyes.class;
        CHECK.due("final and public", Modifier.isFinal(type.getModifiers()) && Modifier.isPublic(type.getModifiers()), true);
        Set<String> got = new TreeSet<>();
        Set<String> hidden = new TreeSet<>();
        for (Method method : type.getDeclaredMethods()) {
            if (Modifier.isPublic(method.getModifiers())) {
                got.add(told(method));
            } else {
                hidden.add(method.getName());
                CHECK.due(method.getName() + " is private", Modifier.isPrivate(method.getModifiers())
                    || method.isSynthetic(), true);
            }
        }
        Set<String> want = new TreeSet<>();
        for (String line : FACE.split(";")) {
            if (!line.isBlank()) {
                want.add(line.strip());
            }
        }
        if (!got.equals(want)) {
            System.out.println(got + "\n" + want);
        }
        CHECK.due("the face", got.equals(want), true);
        for (String line : want) {
            CHECK.due("no private " + line, hidden.contains(line.split(" ")[1]), false);
        }
        for (Field field : type.getDeclaredFields()) {
            boolean none = field.getName().equals("NONE");
            CHECK.due(field.getName(), Modifier.isPublic(field.getModifiers()), none);
            CHECK.due(field.getName(), Modifier.isPrivate(field.getModifiers()), !none);
        }
        Constructor<?>[] constructors = type.getDeclaredConstructors();
        CHECK.due("one constructor", constructors.length, 1);
        CHECK.due("of two", constructors[0].getParameterCount(), 2);
        CHECK.due("public", Modifier.isPublic(constructors[0].getModifiers()), true);
    }

    private static String told(Method method) {
        StringBuilder kinds = new StringBuilder();
        for (Class<?> kind : method.getParameterTypes()) {
            kinds.append(kind == int.class ? "i" : kind == boolean.class ? "b" : "?");
        }
        String head = method.getReturnType() + " " + method.getName() + " " + method.getParameterCount() + " " + kinds;
        return head.strip();
    }

    private static void inside() {
        Class<?>[] classes = ManyEyes.class.getDeclaredClasses();
        CHECK.due("twelve classes at most", classes.length + 1 <= 12, true);
        for (Class<?> inner : classes) {
            CHECK.due(inner.getName() + " is static", Modifier.isStatic(inner.getModifiers()), true);
            int fields = 0;
            for (Field field : inner.getDeclaredFields()) {
                boolean constant = Modifier.isStatic(field.getModifiers());
                CHECK.due(field + " is final if it is static", !constant || Modifier.isFinal(field.getModifiers()), true);
                fields += constant ? 0 : 1;
            }
            CHECK.due(inner.getName() + " has few fields", fields <= 20, true);
            for (Method method : inner.getDeclaredMethods()) {
                CHECK.due(method + " takes seven at most", method.getParameterCount() <= 7, true);
            }
        }
    }

    private static void text() throws IOException {
        String text = Files.readString(Path.of("src/main/java/ManyEyes.java"));
        String bare = text.replaceAll("(?s)/\\*.*?\\*/", "").replaceAll("//[^\n]*", "");
        for (String barred : BARRED) {
            CHECK.due("holds " + barred, Pattern.compile(barred).matcher(bare).find(), false);
        }
        int from = 0;
        String[] lines = bare.split("\n");
        for (int i = 0; i < lines.length; i++) {
            if (lines[i].matches(" {4,8}\\S.*\\) \\{") && !lines[i].matches(" *(if|for|while|switch).*")) {
                from = i;
            }
            if (lines[i].matches(" {4,8}\\}")) {
                CHECK.due("a method of sixty lines at most at " + i, i - from <= 60 || lines[i].length() == 5, true);
            }
        }
    }
}
