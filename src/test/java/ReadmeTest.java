import java.io.IOException;
import java.lang.reflect.InvocationTargetException;
import java.lang.reflect.Method;
import java.nio.file.Files;
import java.nio.file.Path;
import java.util.regex.Matcher;
import java.util.regex.Pattern;

/**
 * The example in README.md answers what README.md says: each line that begins with "cache." is a
 * call, and its comment begins with the answer (or the exception) that is due, up to a colon.
 */
public final class ReadmeTest {
    private static final Path README = Path.of("README.md");
    private static final Pattern LINE = Pattern.compile("cache\\.(\\w+)\\((.*?)\\);\\s*// ([^:]+?)(?::.*)?");

    private static int wrong = 0;
    private static int checked = 0;

    public static void main(String[] args) throws IOException {
        GhostLayers cache = new GhostLayers();
        for (String line : Files.readAllLines(README)) {
            if (line.startsWith("cache.")) {
                check(cache, line);
            }
        }
        if (checked == 0) {
            wrong++;
            System.out.println("README.md shows no calls");
        }
        System.out.println(wrong == 0 ? checked + " lines of README.md hold" : wrong + " lines do not hold");
        if (wrong != 0) {
            System.exit(1);
        }
    }

    private static void check(GhostLayers cache, String line) {
        checked++;
        Matcher parts = LINE.matcher(line);
        String got = parts.matches() ? answer(cache, parts.group(1), parts.group(2)) : "a line of another form";
        if (!parts.matches() || !got.equals(parts.group(3))) {
            wrong++;
            System.out.println(line + "\n    answered " + got);
        }
    }

    private static String answer(GhostLayers cache, String name, String inner) {
        String[] words = inner.isEmpty() ? new String[0] : inner.split(", ");
        for (Method method : GhostLayers.class.getDeclaredMethods()) {
            if (method.getName().equals(name) && method.getParameterCount() == words.length) {
                return answerOf(cache, method, words);
            }
        }
        return "no such method";
    }

    private static String answerOf(GhostLayers cache, Method method, String[] words) {
        Object[] values = new Object[words.length];
        for (int i = 0; i < words.length; i++) {
            values[i] = valueOf(words[i], method.getParameterTypes()[i]);
        }
        try {
            Object got = method.invoke(cache, values);
            return method.getReturnType() == void.class ? "nothing" : String.valueOf(got);
        } catch (InvocationTargetException e) {
            return e.getCause().getClass().getSimpleName();
        } catch (IllegalAccessException e) {
            return "no access";
        }
    }

    private static Object valueOf(String word, Class<?> kind) {
        if (kind == boolean.class) {
            return Boolean.parseBoolean(word);
        }
        return word.equals("GhostLayers.NONE") ? GhostLayers.NONE : Integer.decode(word);
    }
}
