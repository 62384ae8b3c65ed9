import java.lang.reflect.Method;
import java.nio.file.Files;
import java.nio.file.Path;
import java.util.regex.Matcher;
import java.util.regex.Pattern;

/** Puts the calls of README.md to one harbour: each must answer what the comment behind it begins with. */
public final class ReadmeTest {
    private static final Due DUE = new Due();
    private static final Pattern CALL = Pattern.compile("x\\.(\\w+)\\(([^)]*)\\);\\s*// (true|false|-?\\d+)\\b.*");

    public static void main(String[] args) throws Exception {
        SmallHarbour x = new SmallHarbour();
        boolean isCode = false;
        int calls = 0;
        for (String line : Files.readAllLines(Path.of("README.md"))) {
            if (line.startsWith("```")) {
                isCode = line.equals("```java");
            } else if (isCode && line.startsWith("x.")) {
                put(x, line);
                calls++;
            }
        }
        DUE.yes("README.md has calls", calls > 0);
        DUE.finish();
    }

    private static void put(SmallHarbour x, String line) throws Exception {
        Matcher m = CALL.matcher(line);
        if (!m.matches()) {
            DUE.yes("a call with its answer: " + line, false);
            return;
        }
        Object[] values = values(m.group(2));
        Object got = method(m.group(1)).invoke(x, values);
        DUE.yes(line.strip() + " .. answered " + got, got.toString().equals(m.group(3)));
    }

    private static Object[] values(String list) {
        if (list.isEmpty()) {
            return new Object[0];
        }
        String[] words = list.split(", ");
        Object[] values = new Object[words.length];
        for (int i = 0; i < words.length; i++) {
            values[i] = value(words[i]);
        }
        return values;
    }

    private static Object value(String word) {
        if (word.equals("SmallHarbour.NONE")) {
            return SmallHarbour.NONE;
        }
        if (word.equals("true") || word.equals("false")) {
            return word.equals("true");
        }
        return Integer.decode(word);
    }

    // No two methods of the face have one name.
    private static Method method(String name) {
        for (Method m : SmallHarbour.class.getMethods()) {
            if (m.getName().equals(name)) {
                return m;
            }
        }
        throw new IllegalStateException("no method " + name);
    }
}
