import java.io.IOException;
import java.lang.reflect.Method;
import java.lang.reflect.Modifier;
import java.nio.file.Files;
import java.nio.file.Path;
import java.util.HashMap;
import java.util.Map;
import java.util.regex.Matcher;
import java.util.regex.Pattern;

/** README.md must not tell what the class doesn't do: its example is run line by line, each with its answer. */
public final class ReadmeTest {
    private static final Pattern EXAMPLE = Pattern.compile("(?s)```java\n(.*?)```");
    private static final Pattern LINE =
        Pattern.compile("(?:int (\\w+) = )?office\\.(\\w+)\\(([^)]*)\\);\\s*// answers (-?\\w+).*");

    private final WeddingRegister office = new WeddingRegister();
    private final Map<String, Integer> named = new HashMap<>();

    public static void main(String[] args) throws IOException, ReflectiveOperationException {
        String text = Files.readString(Path.of("README.md"));
        new ReadmeTest().example(text);
        everyCallIsNamed(text);
        Due.end("ReadmeTest");
    }

    private void example(String text) throws ReflectiveOperationException {
        Matcher example = EXAMPLE.matcher(text);
        Due.yes("there is an example", example.find());
        String[] lines = example.group(1).split("\n");
        Due.yes("it begins with a new office", lines[0].equals("WeddingRegister office = new WeddingRegister();"));
        for (int i = 1; i < lines.length; i++) {
            Matcher line = LINE.matcher(lines[i]);
            boolean readable = line.matches();
            Due.yes("can be read: " + lines[i], readable);
            if (readable) {
                run(line);
            }
        }
    }

    private void run(Matcher line) throws ReflectiveOperationException {
        String[] words = line.group(3).split(", ");
        Method method = methodNamed(line.group(2));
        Object[] values = new Object[words.length];
        for (int i = 0; i < words.length; i++) {
            values[i] = method.getParameterTypes()[i] == boolean.class ? (Object) words[i].equals("true") : (Object) number(words[i]);
        }
        Object answer = method.invoke(office, values);
        Due.yes(line.group() + " (but it answered " + answer + ")", answer.toString().equals(line.group(4)));
        if (line.group(1) != null) {
            named.put(line.group(1), (Integer) answer);
        }
    }

    private int number(String word) {
        return named.containsKey(word) ? named.get(word) : Integer.parseInt(word);
    }

    private static Method methodNamed(String name) throws NoSuchMethodException {
        for (Method method : WeddingRegister.class.getDeclaredMethods()) {
            if (Modifier.isPublic(method.getModifiers()) && method.getName().equals(name)) {
                return method;
            }
        }
        throw new NoSuchMethodException(name);
    }

    private static void everyCallIsNamed(String text) {
        for (Method method : WeddingRegister.class.getDeclaredMethods()) {
            if (Modifier.isPublic(method.getModifiers())) {
                Due.yes("the table has " + method.getName(), rowOf(method).matcher(text).find());
            }
        }
    }

    private static Pattern rowOf(Method method) {
        return Pattern.compile("\n\\| `" + method.getName() + "\\(\\w+(, \\w+){" + (method.getParameterCount() - 1) + "}\\)` \\|");
    }
}
