import java.lang.reflect.InvocationTargetException;
import java.lang.reflect.Method;
import java.nio.charset.StandardCharsets;
import java.nio.file.Files;
import java.nio.file.Path;
import java.util.Arrays;
import java.util.HashSet;
import java.util.List;
import java.util.Set;
import java.util.regex.Matcher;
import java.util.regex.Pattern;

/** The examples of README.md are made, call by call: each must answer what stands behind it. */
public final class ReadmeTest {
    private static final Pattern CALL = Pattern.compile("house\\.(\\w+)\\(([^)]*)\\);\\s*// (-?\\d+)(: .*)?");
    private static final Pattern FED = Pattern.compile(": \"(.*)\"");
    private static final List<String> FACE = List.of(
            "feed", "end", "program", "sizes", "input", "start", "run", "output", "count", "process", "types");

    public static void main(String[] args) throws Exception {
        Answers answers = new Answers();
        Set<String> called = new HashSet<>();
        SessionHouse house = null;
        boolean inside = false;
        for (String line : Files.readAllLines(Path.of("README.md"))) {
            if (line.startsWith("```")) {
                inside = line.equals("```java");
            } else if (inside && line.equals("SessionHouse house = new SessionHouse();")) {
                house = new SessionHouse();
            } else if (inside) {
                Matcher call = CALL.matcher(line);
                answers.due("a call with its answer in: " + line, call.matches() ? 1 : 0, 1);
                called.add(call.group(1));
                answers.due(line, answer(house, call.group(1), numbers(call.group(2))), Integer.parseInt(call.group(3)));
                fed(answers, line, call);
            }
        }
        for (String name : FACE) {
            answers.due("an example of " + name, called.contains(name) ? 1 : 0, 1);
        }
        answers.finish("ReadmeTest");
    }

    private static int[] numbers(String text) {
        String[] parts = text.isEmpty() ? new String[0] : text.split(", ");
        return Arrays.stream(parts).mapToInt(part -> Long.decode(part).intValue()).toArray();
    }

    private static int answer(SessionHouse house, String name, int[] numbers)
            throws IllegalAccessException, InvocationTargetException {
        for (Method method : SessionHouse.class.getDeclaredMethods()) {
            if (method.getName().equals(name)) {
                return (Integer) method.invoke(house, Arrays.stream(numbers).boxed().toArray());
            }
        }
        return Integer.MIN_VALUE;
    }

    /** The text behind a feed must be the one that is fed. */
    private static void fed(Answers answers, String line, Matcher call) {
        if (!call.group(1).equals("feed")) {
            return;
        }
        Matcher text = FED.matcher(call.group(4));
        answers.due("twenty bytes as a text in: " + line, text.matches() && text.group(1).length() == 20 ? 1 : 0, 1);
        byte[] bytes = text.group(1).getBytes(StandardCharsets.ISO_8859_1);
        int[] numbers = numbers(call.group(2));
        for (int i = 0; i < bytes.length; i++) {
            answers.due("byte " + i + " in: " + line, numbers[i / 4] >>> (24 - 8 * (i % 4)) & 255, bytes[i] & 255);
        }
    }
}
