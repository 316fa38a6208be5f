import java.io.IOException;
import java.lang.reflect.InvocationTargetException;
import java.lang.reflect.Method;
import java.nio.file.Files;
import java.nio.file.Path;
import java.util.HashMap;
import java.util.Map;

/** Runs with the answers of one more reading of the document: src/test/runs/other-reading.txt says how they came. */
public final class OtherReadingTest {
    private static final Path RUNS = Path.of("src/test/runs/other-reading.txt");
    private static final Map<String, Method> CALLS = new HashMap<>();

    private static Bench b = new Bench();

    public static void main(String[] args) throws IOException {
        for (Method method : MendBench.class.getDeclaredMethods()) {
            CALLS.put(method.getName(), method);
        }
        int number = 0;
        int runs = 0;
        for (String line : Files.readAllLines(RUNS)) {
            number++;
            if (line.startsWith("new")) {
                b = new Bench();
                runs++;
            } else if (line.startsWith("draft \"")) {
                b.draft(line.substring(7, line.length() - 1).replace('\t', '\n'));
            } else if (!line.startsWith("#")) {
                check(number, line);
            }
        }
        System.out.println(runs + " runs");
        Bench.same("there are runs", runs > 0, true);
        Bench.end();
    }

    private static void check(int number, String line) {
        String[] sides = line.split(" = ");
        String answered = answer(sides[0].split(" "));
        Bench.same("line " + number + ": " + sides[0], answered, sides[1].equals("?") ? answered : sides[1]);
    }

    /** What a call answers, or the name of the exception that it throws. */
    private static String answer(String[] told) {
        Method call = CALLS.get(told[0]);
        Class<?>[] types = call.getParameterTypes();
        Object[] arguments = new Object[types.length];
        for (int i = 0; i < types.length; i++) {
            int argument = Integer.parseInt(told[i + 1]);
            arguments[i] = types[i] == boolean.class ? (Object) (argument != 0) : (Object) argument;
        }
        try {
            Object answer = call.invoke(b.x, arguments);
            return answer instanceof Boolean ? (Boolean) answer ? "1" : "0"
                    : answer instanceof Character ? Integer.toString((Character) answer) : answer.toString();
        } catch (InvocationTargetException e) {
            return e.getCause().getClass().getSimpleName();
        } catch (IllegalAccessException e) {
            return e.toString();
        }
    }
}
