import java.io.IOException;
import java.lang.reflect.Method;
import java.nio.file.Files;
import java.nio.file.Path;
import java.util.regex.Matcher;
import java.util.regex.Pattern;

/** Each call of README.md's example, with the answer that stands behind it there. */
public final class ReadmeTest {
    private static final Check CHECK = new Check("ReadmeTest");
    private static final Pattern CALL = Pattern.compile("^s\\.(\\w+)\\(([^)]*)\\);\\s*// (-?\\d+)");

    public static void main(String[] args) throws IOException, ReflectiveOperationException {
        SpentTurns s = new SpentTurns();
        int calls = 0;
        for (String line : Files.readAllLines(Path.of("README.md"))) {
            if (!line.startsWith("s.")) continue;
            Matcher m = CALL.matcher(line);
            CHECK.due("a call with an answer: " + line, m.find() ? 1 : 0, 1);
            CHECK.due(m.group(1) + "(" + m.group(2) + ")", answer(s, m.group(1), m.group(2)), Integer.parseInt(m.group(3)));
            calls++;
        }
        CHECK.due("the example has calls", calls > 10 ? 1 : 0, 1);
        CHECK.close();
    }

    private static int answer(SpentTurns s, String name, String list) throws ReflectiveOperationException {
        String[] texts = list.isEmpty() ? new String[0] : list.split(",\\s*");
        Object[] numbers = new Object[texts.length];
        for (int i = 0; i < texts.length; i++) {
            numbers[i] = Integer.decode(texts[i]);
        }
        for (Method method : SpentTurns.class.getMethods()) {
            if (method.getName().equals(name) && method.getParameterCount() == numbers.length) {
                return (int) method.invoke(s, numbers);
            }
        }
        return Integer.MIN_VALUE;
    }
}
