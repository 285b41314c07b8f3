import java.io.IOException;
import java.lang.reflect.Constructor;
import java.lang.reflect.Field;
import java.lang.reflect.Method;
import java.lang.reflect.Modifier;
import java.nio.file.Files;
import java.nio.file.Path;
import java.util.ArrayList;
import java.util.Arrays;
import java.util.List;
import java.util.TreeSet;
import java.util.regex.Matcher;
import java.util.regex.Pattern;

/** The public face of the document, and the rules of LANGUAGE.md that are easy to break unseen. */
public final class FaceTest {
    private static final Probe PROBE = new Probe();
    private static final String[] FACE = {
        "int feed(int,int,int,int,int) IllegalStateException", "int trim(int) IllegalArgumentException",
        "int teach()", "int errorAt()", "int count(int) IndexOutOfBoundsException",
        "int type(int) IllegalArgumentException IllegalStateException", "int back() IllegalStateException",
        "int take(int) IndexOutOfBoundsException IllegalStateException", "int say() IllegalStateException",
        "int setLimit(int) IllegalArgumentException", "int offer(int) IndexOutOfBoundsException",
        "int word(int,int) IndexOutOfBoundsException", "int letter(int,int) IndexOutOfBoundsException",
        "boolean near(int,int)", "int best()", "int strokes(int) IndexOutOfBoundsException",
        "int needs(int) IndexOutOfBoundsException", "int closest(int) IndexOutOfBoundsException",
        "double mean()", "long digest()"};
    private static final String[] NEVER = {"->", "::", "\\bfinally\\b", "\\bassert\\b", "\\bsynchronized\\b",
        "\" \\+", "\\+ \"", "\\+ '", "Exact\\b"};
    private static final int LONGEST_METHOD = 60;
    private static final int MOST_CLASSES = 12;
    private static final int MOST_FIELDS = 20;

    public static void main(String[] args) throws IOException {
        face();
        for (Class<?> inside : WordPad.class.getDeclaredClasses()) {
            PROBE.holds(inside + " is static and final", Modifier.isStatic(inside.getModifiers())
                    && Modifier.isFinal(inside.getModifiers()));
            fields(inside);
            names(inside);
        }
        fields(WordPad.class);
        PROBE.holds("so few classes", WordPad.class.getDeclaredClasses().length < MOST_CLASSES);
        text();
        PROBE.end();
    }

    private static void face() {
        PROBE.holds("public and final", Modifier.isPublic(WordPad.class.getModifiers())
                && Modifier.isFinal(WordPad.class.getModifiers()));
        TreeSet<String> got = new TreeSet<>();
        for (Method method : WordPad.class.getDeclaredMethods()) {
            boolean isPublic = Modifier.isPublic(method.getModifiers());
            PROBE.holds(method + " is public or private", isPublic || Modifier.isPrivate(method.getModifiers()));
            if (isPublic) {
                got.add(signature(method));
            }
        }
        PROBE.holds("the methods " + got, got.equals(new TreeSet<>(Arrays.asList(FACE))));
        Constructor<?>[] constructors = WordPad.class.getDeclaredConstructors();
        PROBE.holds("one constructor", constructors.length == 1 && constructors[0].getParameterCount() == 0
                && Modifier.isPublic(constructors[0].getModifiers()));
    }

    private static String signature(Method method) {
        List<String> parameters = new ArrayList<>();
        for (Class<?> parameter : method.getParameterTypes()) {
            parameters.add(parameter.getSimpleName());
        }
        StringBuilder text = new StringBuilder(method.getReturnType().getSimpleName() + " " + method.getName()
                + "(" + String.join(",", parameters) + ")");
        for (Class<?> thrown : method.getExceptionTypes()) {
            text.append(' ').append(thrown.getSimpleName());
        }
        return text.toString();
    }

    private static void fields(Class<?> owner) {
        int ofObjects = 0;
        for (Field field : owner.getDeclaredFields()) {
            int modifiers = field.getModifiers();
            if (Modifier.isStatic(modifiers)) {
                PROBE.holds(field + " is final", Modifier.isFinal(modifiers));
            } else {
                ofObjects++;
                PROBE.holds(field + " is private", Modifier.isPrivate(modifiers));
            }
        }
        PROBE.holds(owner + " has so few fields", ofObjects <= MOST_FIELDS);
    }

    /** No method inside bears the name of one of the face. */
    private static void names(Class<?> inside) {
        for (Method method : inside.getDeclaredMethods()) {
            for (String one : FACE) {
                PROBE.holds(method + " has its own name", !one.contains(" " + method.getName() + "("));
            }
            PROBE.holds(method + " has few parameters", method.getParameterCount() <= 7);
        }
    }

    private static void text() throws IOException {
        String text = Files.readString(Path.of("src/main/java/WordPad.java"));
        String code = text.replaceAll("(?s)/\\*.*?\\*/", "").replaceAll("//[^\n]*", "");
        for (String word : NEVER) {
            Matcher found = Pattern.compile(word).matcher(code);
            PROBE.holds("no " + word, !found.find());
        }
        for (int i = 0; i < text.length(); i++) {
            PROBE.holds("the sign at " + i, text.charAt(i) == '\n' || text.charAt(i) >= 32 && text.charAt(i) < 127);
        }
        int started = 0;
        String[] lines = text.split("\n");
        for (int i = 0; i < lines.length; i++) {
            if (lines[i].matches(" {4}( {4})?[a-zA-Z].*\\) .*\\{")) {
                started = i;
            } else if (lines[i].matches(" {4}( {4})?\\}")) {
                PROBE.holds("so few lines to line " + (i + 1), i - started <= LONGEST_METHOD
                        || !lines[started].contains("("));
            }
        }
    }
}
