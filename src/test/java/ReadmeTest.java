import java.io.IOException;
import java.lang.reflect.InvocationTargetException;
import java.net.URL;
import java.net.URLClassLoader;
import java.nio.file.Files;
import java.nio.file.Path;
import java.util.Comparator;
import java.util.List;
import java.util.regex.Matcher;
import java.util.regex.Pattern;
import java.util.stream.Stream;
import javax.tools.ToolProvider;

/** The examples of README.md: they compile, and each call answers what stands behind it. */
public final class ReadmeTest {
    private static final Path README = Path.of("README.md");
    private static final Pattern CALL = Pattern.compile("(?:int (\\w+) = )?(bench\\.\\w+\\(.*\\));\\s+// (-?\\d+|[A-Z_]+)(?::.*)?");
    private static final String MAKING = "MendBench bench = new MendBench();";
    // The examples are loaded apart from the tests: they keep what was answered, and it is looked at here.
    private static final String KEEPING = "public static final java.util.List<String> SAID = new java.util.ArrayList<>();\n"
            + "public static final java.util.List<long[]> ANSWERS = new java.util.ArrayList<>();\n"
            + "static void keep(String said, long answered, long due) { SAID.add(said); ANSWERS.add(new long[] {answered, due}); }\n";

    public static void main(String[] args) throws IOException, ReflectiveOperationException {
        Path room = Files.createTempDirectory("readme");
        try {
            run(room, write(Files.readAllLines(README)));
        } finally {
            empty(room);
        }
        Bench.end();
    }

    /** A class with a method for each example, in which each call is a check of its answer. */
    private static String write(List<String> lines) {
        StringBuilder made = new StringBuilder("public final class Examples {\n").append(KEEPING);
        StringBuilder calls = new StringBuilder();
        int examples = 0;
        int checks = 0;
        boolean isInside = false;
        for (String line : lines) {
            if (line.equals("```java")) {
                isInside = true;
                made.append("static void example").append(examples).append("() {\n");
                calls.append("example").append(examples++).append("();\n");
            } else if (isInside && line.equals("```")) {
                isInside = false;
                made.append("}\n");
            } else if (isInside && line.equals(MAKING)) {
                made.append(line).append('\n');
            } else if (isInside) {
                made.append(checked(line));
                checks++;
            }
        }
        Bench.same("README.md has examples", examples > 0 && checks > 0, true);
        return made.append("public static void all() {\n").append(calls).append("}\n}\n").toString();
    }

    private static String checked(String line) {
        Matcher call = CALL.matcher(line);
        boolean isCall = call.matches();
        Bench.same("a call with its answer: " + line, isCall, true);
        if (!isCall) {
            return "";
        }
        String name = call.group(1);
        String due = call.group(3).matches("[A-Z_]+") ? "MendBench." + call.group(3) : call.group(3);
        String said = call.group(2).replace("\\", "\\\\").replace("\"", "\\\"");
        String answer = name == null ? call.group(2) : name;
        String ahead = name == null ? "" : "int " + name + " = " + call.group(2) + ";\n";
        return ahead + "keep(\"" + said + "\", " + answer + ", " + due + ");\n";
    }

    private static void run(Path room, String source) throws IOException, ReflectiveOperationException {
        Path file = room.resolve("Examples.java");
        Files.writeString(file, source);
        String path = System.getProperty("java.class.path");
        int failed = ToolProvider.getSystemJavaCompiler().run(null, System.out, System.out, "-cp", path, "-d", room.toString(), file.toString());
        Bench.same("the examples compile", failed, 0);
        if (failed != 0) {
            return;
        }
        try (URLClassLoader loader = new URLClassLoader(new URL[] {room.toUri().toURL()})) {
            Class<?> examples = loader.loadClass("Examples");
            examples.getMethod("all").invoke(null);
            List<?> said = (List<?>) examples.getField("SAID").get(null);
            List<?> answers = (List<?>) examples.getField("ANSWERS").get(null);
            for (int i = 0; i < said.size(); i++) {
                long[] answer = (long[]) answers.get(i);
                Bench.same((String) said.get(i), answer[0], answer[1]);
            }
        } catch (InvocationTargetException e) {
            Bench.same("the examples throw " + e.getCause(), 1, 0);
        }
    }

    private static void empty(Path room) throws IOException {
        List<Path> left;
        try (Stream<Path> all = Files.walk(room)) {
            left = all.sorted(Comparator.reverseOrder()).toList();
        }
        for (Path path : left) {
            Files.delete(path);
        }
    }
}
