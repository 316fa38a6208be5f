import java.io.IOException;
import java.lang.reflect.Constructor;
import java.lang.reflect.Field;
import java.lang.reflect.Method;
import java.lang.reflect.Modifier;
import java.nio.file.Files;
import java.nio.file.Path;
import java.util.Set;
import java.util.TreeSet;
import java.util.regex.Matcher;
import java.util.regex.Pattern;

/** What can be seen of the rules of LANGUAGE.md from outside: the face, and words that the program must not have. */
public final class LanguageTest {
    private static final String FACE = "type clear part pattern template groups least begins literal runaway find anew by steps back matches "
            + "match fill size sign replace mark place open shut undo redo record play stream feed finish told";
    private static final String[] BARRED = {
        "->", "::", "import (?!java\\.util\\.Arrays;)", "\\bfinally\\b", "\\bsynchronized\\b", "\\bassert\\b", "\\bwhile *\\(true\\)", "Exact\\(",
        "\\btoString\\b", "\\bhashCode\\b", "System\\.(?!arraycopy)", "Math\\.(?!min|max)", "\\bcatch\\b", "\\bfloat\\b", "\\bdouble\\b", "[^\\x0a\\x20-\\x7e]",
        "\\bprotected\\b", "\\bpackage\\b", "\" *\\+", "\\+ *\"",
    };

    public static void main(String[] args) throws IOException {
        String source = Files.readString(Path.of("src/main/java/MendBench.java"));
        for (String barred : BARRED) {
            Matcher matcher = Pattern.compile(barred).matcher(source);
            Bench.same("the program has " + barred, matcher.find() ? 1 : 0, 0);
        }
        face();
        for (Class<?> inner : MendBench.class.getDeclaredClasses()) {
            Bench.same(inner + " is static", Modifier.isStatic(inner.getModifiers()), true);
            for (Method method : inner.getDeclaredMethods()) {
                Bench.same(inner + " names a method " + method.getName(), names().contains(method.getName()), false);
                Bench.same("parameters of " + method, method.getParameterCount() <= 7, true);
            }
            for (Field field : inner.getDeclaredFields()) {
                Bench.same("static " + field, !Modifier.isStatic(field.getModifiers()) || Modifier.isFinal(field.getModifiers()), true);
            }
        }
        Bench.end();
    }

    private static Set<String> names() {
        return new TreeSet<>(Set.of(FACE.split(" ")));
    }

    private static void face() {
        Set<String> seen = new TreeSet<>();
        for (Method method : MendBench.class.getDeclaredMethods()) {
            if (!Modifier.isPrivate(method.getModifiers())) {
                Bench.same(method + " is public", Modifier.isPublic(method.getModifiers()), true);
                seen.add(method.getName());
            } else {
                Bench.same("a private method bears the name of " + method, names().contains(method.getName()), false);
            }
        }
        Bench.same("the face", seen.toString(), names().toString());
        Set<String> constants = new TreeSet<>();
        for (Field field : MendBench.class.getDeclaredFields()) {
            if (!Modifier.isPrivate(field.getModifiers())) {
                constants.add(field.getName());
            }
        }
        Bench.same("the constants", constants.toString(), "[NONE, NOT_TAKEN, NOT_YET, TOO_FAR, UNSET]");
        Constructor<?>[] constructors = MendBench.class.getConstructors();
        Bench.same("constructors", constructors.length, 1);
        Bench.same("the class is final", Modifier.isFinal(MendBench.class.getModifiers()), true);
    }
}
