import java.io.File;
import java.io.IOException;
import java.io.PrintWriter;
import java.io.StringWriter;
import java.lang.reflect.Array;
import java.lang.reflect.Field;
import java.lang.reflect.Modifier;
import java.net.URISyntaxException;
import java.util.ArrayList;
import java.util.Arrays;
import java.util.HashSet;
import java.util.IdentityHashMap;
import java.util.List;
import java.util.Map;
import java.util.Set;
import java.util.TreeMap;
import java.util.TreeSet;
import java.util.regex.Matcher;
import java.util.regex.Pattern;
import java.util.spi.ToolProvider;

/**
 * Rules of LANGUAGE.md that show in the compiled program: what of the library it calls (rule 4),
 * how deep its calls go (rules 8 and 11), and what it makes (rule 12).
 */
public final class RulesTest {
    private static final Probe PROBE = new Probe();
    private static final Set<String> LIBRARY = Set.of("java/lang/Object.<init>", "java/lang/Math.min",
            "java/lang/Math.max", "java/lang/String.charAt", "java/lang/String.length", "java/lang/String.indexOf",
            "java/lang/IndexOutOfBoundsException.<init>", "java/lang/IllegalStateException.<init>",
            "java/lang/IllegalArgumentException.<init>");
    private static final int DEEPEST_CALLS = 8;
    private static final int ROOM_OF_A_PAD = 20000;

    private static final Pattern CLASS = Pattern.compile(".*class ([\\w$]+) \\{");
    private static final Pattern METHOD = Pattern.compile("  (?=\\S).*?([\\w$]+)\\([^)]*\\).*;");
    private static final Pattern CALL = Pattern.compile(".* invoke.*Method (?:([\\w$/]+)\\.)?\"?([\\w<>$]+)\"?:.*");
    private static final Pattern MAKING = Pattern.compile(".*: (?:new|newarray|anewarray|multianewarray) +(.*)");

    /** The methods that each method calls; a method is told as its class and its name. */
    private static final Map<String, Set<String>> CALLS = new TreeMap<>();

    public static void main(String[] args) throws IOException, URISyntaxException, IllegalAccessException {
        read(code());
        PROBE.holds("the methods are found", CALLS.containsKey("WordPad.digest") && CALLS.size() > 100);
        for (String method : CALLS.keySet()) {
            List<String> deepest = deepest(method);
            PROBE.holds("calls no deeper than " + DEEPEST_CALLS + ": " + deepest, deepest.size() <= DEEPEST_CALLS);
        }
        recursions();
        room();
        PROBE.end();
    }

    /** The program as javap tells it. */
    private static String code() throws URISyntaxException {
        File classes = new File(WordPad.class.getProtectionDomain().getCodeSource().getLocation().toURI());
        List<String> call = new ArrayList<>(List.of("-c", "-p"));
        for (File file : classes.listFiles((folder, name) -> name.matches("WordPad(\\$\\w+)?\\.class"))) {
            call.add(file.getPath());
        }
        StringWriter told = new StringWriter();
        PrintWriter writer = new PrintWriter(told);
        int failed = ToolProvider.findFirst("javap").orElseThrow().run(writer, writer, call.toArray(new String[0]));
        PROBE.due("javap", failed, 0);
        return told.toString();
    }

    private static void read(String code) {
        String owner = "";
        String method = "";
        for (String line : code.split("\n")) {
            Matcher head = CLASS.matcher(line);
            Matcher start = METHOD.matcher(line);
            Matcher making = MAKING.matcher(line);
            if (head.matches()) {
                owner = head.group(1);
            } else if (start.matches()) {
                method = owner + "." + (start.group(1).equals(owner) ? "<init>" : start.group(1));
                CALLS.putIfAbsent(method, new TreeSet<>());
            } else if (line.contains(": invoke")) {
                call(owner, method, line);
            } else if (making.matches()) {
                // What a constructor makes is made once an object; an exception ends its call.
                PROBE.holds(method + " makes nothing by " + line, method.endsWith("<init>")
                        || making.group(1).endsWith("Exception")
                        || method.equals("WordPad$Reader.read") && making.group(1).endsWith("Grammar"));
            }
        }
    }

    private static void call(String owner, String method, String line) {
        Matcher call = CALL.matcher(line);
        PROBE.holds("only plain calls in " + method + ": " + line, call.matches() && !line.contains("invokedynamic"));
        if (call.matches()) {
            String called = (call.group(1) == null ? owner : call.group(1)) + "." + call.group(2);
            if (called.startsWith("WordPad")) {
                CALLS.get(method).add(called);
            } else {
                PROBE.holds(called + ", that " + method + " calls, is one of the library", LIBRARY.contains(called));
            }
        }
    }

    private static Set<String> reached(String method) {
        Set<String> reached = new HashSet<>();
        List<String> left = new ArrayList<>(CALLS.get(method));
        while (!left.isEmpty()) {
            String one = left.remove(left.size() - 1);
            if (reached.add(one)) {
                left.addAll(CALLS.get(one));
            }
        }
        return reached;
    }

    /** The longest row of calls; methods that call one another again and again count as one. */
    private static List<String> deepest(String method) {
        Set<String> together = new TreeSet<>();
        for (String other : reached(method)) {
            if (reached(other).contains(method)) {
                together.add(other);
            }
        }
        together.add(method);
        List<String> longest = List.of();
        for (String one : together) {
            for (String called : CALLS.get(one)) {
                List<String> below = together.contains(called) ? List.of() : deepest(called);
                longest = below.size() > longest.size() ? below : longest;
            }
        }
        List<String> whole = new ArrayList<>(List.of(together.toString()));
        whole.addAll(longest);
        return whole;
    }

    /** Only the grammar calls itself, and only in methods whose depth is carried as an argument. */
    private static void recursions() {
        Set<String> deep = new TreeSet<>();
        for (String method : CALLS.keySet()) {
            if (reached(method).contains(method)) {
                deep.add(method.replace("WordPad$Grammar.", ""));
            }
        }
        PROBE.holds("recursions are those of the grammar, not " + deep, deep.equals(new TreeSet<>(
                Arrays.asList("test", "both", "single", "sum", "product", "value", "ofTwo"))));
    }

    /** The fields and elements that an object takes up, all that it made counted. */
    private static void room() throws IllegalAccessException {
        IdentityHashMap<Object, Boolean> seen = new IdentityHashMap<>();
        List<Object> left = new ArrayList<>(List.of(new WordPad()));
        int room = 0;
        while (!left.isEmpty()) {
            Object one = left.remove(left.size() - 1);
            if (one == null || one instanceof String || seen.put(one, true) != null) {
                continue;
            }
            if (one.getClass().isArray()) {
                room += Array.getLength(one);
                if (one instanceof Object[]) {
                    left.addAll(Arrays.asList((Object[]) one));
                }
            } else {
                for (Field field : one.getClass().getDeclaredFields()) {
                    if (!Modifier.isStatic(field.getModifiers())) {
                        room++;
                        field.setAccessible(true);
                        left.add(field.getType().isPrimitive() ? null : field.get(one));
                    }
                }
            }
        }
        PROBE.holds("fields and elements of a pad, " + room + ", are few", room <= ROOM_OF_A_PAD);
        PROBE.holds("objects of a pad, " + seen.size() + ", are few", seen.size() <= ROOM_OF_A_PAD / 10);
    }
}
