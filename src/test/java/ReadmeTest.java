import java.io.IOException;
import java.net.URL;
import java.net.URLClassLoader;
import java.nio.file.Files;
import java.nio.file.Path;
import java.util.ArrayList;
import java.util.List;
import java.util.regex.Matcher;
import java.util.regex.Pattern;
import javax.tools.ToolProvider;

/** README.md: its Java is compiled and run, and each call answers what stands behind it. */
public final class ReadmeTest {
    private static final Probe PROBE = new Probe();
    private static final Pattern BLOCK = Pattern.compile("```java\n(.*?)```", Pattern.DOTALL);
    private static final Pattern ANSWERED = Pattern.compile("(pad\\.\\w+\\(.*?\\)); +// (-?[0-9.]+\\b).*");

    public static void main(String[] args) throws IOException, ReflectiveOperationException {
        String readme = Files.readString(Path.of("README.md"));
        List<String> due = new ArrayList<>();
        List<String> got = run(source(blocks(readme), due));
        PROBE.holds("answers stand behind most calls", due.size() > 15);
        PROBE.due("number of answers", got.size(), due.size());
        for (int i = 0; i < Math.min(got.size(), due.size()); i++) {
            PROBE.holds("README.md: " + got.get(i) + ", told is " + due.get(i) + "; that",
                    got.get(i).endsWith(" answered " + due.get(i)));
        }
        calls(readme);
        tests(readme);
        PROBE.end();
    }

    private static List<String> blocks(String readme) {
        List<String> blocks = new ArrayList<>();
        Matcher block = BLOCK.matcher(readme);
        while (block.find()) {
            blocks.add(block.group(1));
        }
        PROBE.due("blocks of Java: a method, and how it is used", blocks.size(), 2);
        return blocks;
    }

    /** The method of the first block, and the lines of the second one, which put down what they answer. */
    private static String source(List<String> blocks, List<String> due) {
        StringBuilder source = new StringBuilder("import java.nio.ByteBuffer;\n"
                + "import java.nio.charset.StandardCharsets;\nimport java.util.*;\npublic class Readme {\n"
                + blocks.get(0) + "public static List<String> example() {\nList<String> told = new ArrayList<>();\n");
        for (String line : blocks.get(1).split("\n")) {
            Matcher answered = ANSWERED.matcher(line);
            if (answered.matches()) {
                String call = answered.group(1);
                source.append("told.add(\"").append(call).append(" answered \" + ").append(call).append(");\n");
                due.add(answered.group(2));
            } else {
                PROBE.holds("no answer is told in a way that is not read: " + line, !line.contains("//"));
                source.append(line).append('\n');
            }
        }
        return source.append("return told;\n}\n}\n").toString();
    }

    private static List<String> run(String source) throws IOException, ReflectiveOperationException {
        Path work = Files.createTempDirectory("readme");
        Path file = work.resolve("Readme.java");
        Path compiled = work.resolve("Readme.class");
        try {
            Files.writeString(file, source);
            int failed = ToolProvider.getSystemJavaCompiler().run(null, null, null, "-d", work.toString(),
                    "-cp", System.getProperty("java.class.path"), file.toString());
            PROBE.due("errors of javac", failed, 0);
            List<String> told = new ArrayList<>();
            if (failed == 0) {
                try (URLClassLoader loader = new URLClassLoader(new URL[] {work.toUri().toURL()})) {
                    Object list = loader.loadClass("Readme").getMethod("example").invoke(null);
                    for (Object answer : (List<?>) list) {
                        told.add((String) answer);
                    }
                }
            }
            return told;
        } finally {
            Files.deleteIfExists(compiled);
            Files.deleteIfExists(file);
            Files.deleteIfExists(work);
        }
    }

    /** Each call of the face is told of. */
    private static void calls(String readme) {
        for (java.lang.reflect.Method method : WordPad.class.getDeclaredMethods()) {
            if (java.lang.reflect.Modifier.isPublic(method.getModifiers())) {
                PROBE.holds("README.md tells of " + method.getName(), readme.contains("`" + method.getName() + "`"));
            }
        }
    }

    /** Each test is told of, and no other. */
    private static void tests(String readme) throws IOException {
        int files = 0;
        try (var tests = Files.newDirectoryStream(Path.of("src/test/java"), "*Test.java")) {
            for (Path test : tests) {
                String name = test.getFileName().toString().replace(".java", "");
                PROBE.holds("README.md tells of " + name, readme.contains("| `" + name + "` |"));
                files++;
            }
        }
        Matcher row = Pattern.compile("(?m)^\\| `\\w+Test` \\|").matcher(readme);
        PROBE.due("tests that README.md tells of", row.results().count(), files);
    }
}
