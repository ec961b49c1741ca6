import java.io.IOException;
import java.lang.reflect.Method;
import java.lang.reflect.Modifier;
import java.nio.file.Files;
import java.nio.file.Path;
import java.util.HashMap;
import java.util.Map;
import java.util.regex.Matcher;
import java.util.regex.Pattern;

/** README.md: its example answers what its comments say, and its table names every call. */
public final class ReadmeTest {
    private static final Path README = Path.of("README.md");
    /** A call, perhaps with a name for its answer, and behind it the answer that is due. */
    private static final Pattern LINE = Pattern.compile("(?:int (\\w+) = )?x\\.(\\w+)\\(([^)]*)\\); *// (-?\\d+): .*");
    private static final String MAKING = "StagedTables x = new StagedTables();";

    private final StagedTables x = new StagedTables();
    private final Map<String, Integer> names = new HashMap<>();

    private ReadmeTest() {
    }

    public static void main(String[] args) throws IOException, ReflectiveOperationException {
        String text = Files.readString(README);
        new ReadmeTest().example(text);
        everyCall(text);
        Due.end();
    }

    private void example(String text) throws ReflectiveOperationException {
        int begin = text.indexOf("```java\n") + "```java\n".length();
        String[] lines = text.substring(begin, text.indexOf("```", begin)).split("\n");
        Due.isTrue("the example begins with " + MAKING, lines[0].equals(MAKING));
        for (int i = 1; i < lines.length; i++) {
            Matcher m = LINE.matcher(lines[i]);
            boolean isCall = m.matches();
            Due.isTrue("a call with its answer: " + lines[i], isCall);
            if (isCall) {
                callOne(m);
            }
        }
    }

    private void callOne(Matcher m) throws ReflectiveOperationException {
        String[] words = m.group(3).isEmpty() ? new String[0] : m.group(3).split(", ");
        Class<?>[] types = new Class<?>[words.length];
        Object[] numbers = new Object[words.length];
        for (int i = 0; i < words.length; i++) {
            types[i] = int.class;
            numbers[i] = names.containsKey(words[i]) ? names.get(words[i]) : Integer.valueOf(words[i]);
        }
        int got = (int) StagedTables.class.getMethod(m.group(2), types).invoke(x, numbers);
        Due.is("README: " + m.group(2) + "(" + m.group(3) + ")", got, Integer.parseInt(m.group(4)));
        if (m.group(1) != null) {
            names.put(m.group(1), got);
        }
    }

    private static void everyCall(String text) {
        for (Method m : StagedTables.class.getDeclaredMethods()) {
            if (Modifier.isPublic(m.getModifiers())) {
                Matcher row = Pattern.compile("(?m)^\\| `" + m.getName() + "\\(([^)]*)\\)` \\|").matcher(text);
                boolean found = row.find();
                Due.isTrue("README has a row for " + m.getName(), found);
                if (found) {
                    int parameters = row.group(1).isEmpty() ? 0 : row.group(1).split(",").length;
                    Due.is("README: parameters of " + m.getName(), parameters, m.getParameterCount());
                }
            }
        }
    }
}
