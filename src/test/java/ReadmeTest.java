import java.io.IOException;
import java.lang.reflect.Method;
import java.lang.reflect.Modifier;
import java.nio.file.Files;
import java.nio.file.Path;
import java.util.regex.Matcher;
import java.util.regex.Pattern;

/** Makes the calls of the example in README.md: each has to answer the number in its comment. */
public final class ReadmeTest {
    private static final Pattern CALL = Pattern.compile("x\\.(\\w+)\\(([^)]*)\\); *// (-?\\d+)(:.*)?");
    private static final Pattern WRITING = Pattern.compile("write\\(x, \"([^\"]*)\"\\);.*");
    private static final String FIRST_LINE = "DomeLamps x = new DomeLamps();";

    public static void main(String[] args) throws IOException, ReflectiveOperationException {
        String readme = Files.readString(Path.of("README.md"));
        int from = readme.indexOf(FIRST_LINE);
        int to = readme.indexOf("```", Math.max(0, from));
        Due.is("README.md has an example", from >= 0 && to > from ? 1 : 0, 1);
        if (from >= 0 && to > from) {
            example(readme.substring(from + FIRST_LINE.length(), to).trim().split("\n"));
        }
        everyMethod(readme);
        Due.end("ReadmeTest");
    }

    private static void example(String[] lines) throws ReflectiveOperationException {
        DomeLamps x = new DomeLamps();
        for (String line : lines) {
            Matcher call = CALL.matcher(line);
            Matcher writing = WRITING.matcher(line);
            if (call.matches()) {
                Due.is("README.md: " + line, answer(x, call.group(1), call.group(2)), Long.parseLong(call.group(3)));
            } else if (writing.matches()) {
                Due.write(x, writing.group(1));
            } else {
                Due.is("README.md: '" + line + "' is a call with its answer", 0, 1);
            }
        }
    }

    private static int answer(DomeLamps x, String name, String arguments) throws ReflectiveOperationException {
        String[] words = arguments.isEmpty() ? new String[0] : arguments.split(", ");
        for (Method method : DomeLamps.class.getMethods()) {
            if (method.getName().equals(name) && method.getParameterCount() == words.length) {
                return (Integer) method.invoke(x, values(words, method.getParameterTypes()));
            }
        }
        throw new NoSuchMethodException(name);
    }

    private static Object[] values(String[] words, Class<?>[] types) throws ReflectiveOperationException {
        Object[] values = new Object[words.length];
        for (int i = 0; i < words.length; i++) {
            if (words[i].startsWith("DomeLamps.")) {
                values[i] = DomeLamps.class.getField(words[i].substring("DomeLamps.".length())).getInt(null);
            } else if (types[i] == long.class) {
                values[i] = Long.decode(words[i].replace("L", ""));
            } else {
                values[i] = Integer.decode(words[i]);
            }
        }
        return values;
    }

    /** README.md names each method of the face. */
    private static void everyMethod(String readme) {
        for (Method method : DomeLamps.class.getDeclaredMethods()) {
            if (Modifier.isPublic(method.getModifiers())) {
                Due.is("README.md names " + method.getName(), readme.contains("`" + method.getName() + "`") ? 1 : 0, 1);
            }
        }
    }
}
