import java.io.IOException;
import java.lang.reflect.InvocationTargetException;
import java.lang.reflect.Method;
import java.nio.file.Files;
import java.nio.file.Path;
import java.util.ArrayList;
import java.util.Arrays;
import java.util.List;
import java.util.NoSuchElementException;
import java.util.regex.Matcher;
import java.util.regex.Pattern;

/** The examples of README.md: every answer, and every row, that stands behind a call. */
public final class ReadmeTest {
    private static final Path README = Path.of("README.md");
    private static final Path ITSELF = Path.of("src/test/java/ReadmeTest.java");
    private static final Pattern TELL = Pattern.compile("tell\\(jars, \"([^\"]*)\"\\);.*");
    private static final Pattern CALL = Pattern.compile("jars\\.(\\w+)\\(([^)]*)\\);\\s+// (.*)");
    private static final Pattern ANSWER =
        Pattern.compile("(true|false|-?\\d+)(?:; row (-?\\d+(?:, -?\\d+)*))?(?:: .*)?");
    private static final int FEWEST_CALLS = 40;

    private static JarsThatLeak jars = new JarsThatLeak();
    private static int calls = 0;

    public static void main(String[] args) throws IOException {
        for (List<String> block : blocks(Files.readAllLines(README))) {
            if (block.get(0).startsWith("static ")) {
                helper(block);
            } else {
                example(block);
            }
        }
        Check.due("calls in the examples, enough of them", calls >= FEWEST_CALLS, true);
        Check.finish();
    }

    private static List<List<String>> blocks(List<String> lines) {
        List<List<String>> blocks = new ArrayList<>();
        List<String> block = null;
        for (String line : lines) {
            if (line.equals("```java")) {
                block = new ArrayList<>();
                blocks.add(block);
            } else if (line.startsWith("```")) {
                block = null;
            } else if (block != null) {
                block.add(line);
            }
        }
        return blocks;
    }

    /** The helper is known to work if it is the very one that the examples are told with here. */
    private static void helper(List<String> block) throws IOException {
        StringBuilder here = new StringBuilder();
        for (String line : Files.readAllLines(ITSELF)) {
            here.append(line.strip()).append('\n');
        }
        StringBuilder there = new StringBuilder();
        for (String line : block) {
            there.append(line.strip()).append('\n');
        }
        Check.due("the helper, word for word as here", here.indexOf(there.toString()) >= 0, true);
    }

    private static void example(List<String> block) {
        for (String line : block) {
            Matcher tell = TELL.matcher(line);
            Matcher call = CALL.matcher(line);
            if (line.equals("JarsThatLeak jars = new JarsThatLeak();")) {
                jars = new JarsThatLeak();
            } else if (tell.matches()) {
                tell(jars, tell.group(1));
            } else if (call.matches()) {
                call(call.group(1), call.group(2), call.group(3));
            } else {
                Check.due("a line of the examples: " + line, line.isBlank() || line.startsWith("//"), true);
            }
        }
    }

    private static void call(String name, String arguments, String words) {
        String told = name + "(" + arguments + ")";
        Matcher due = ANSWER.matcher(words);
        if (!due.matches()) {
            Check.dueText("behind " + told, words, "an answer");
            return;
        }
        int[] ahead = Check.rowOf(jars);
        Check.dueText(told, answer(name, arguments), due.group(1));
        String row = due.group(2) == null ? Arrays.toString(ahead) : "[" + due.group(2) + "]";
        Check.dueText("the row behind " + told, Arrays.toString(Check.rowOf(jars)), row);
        calls++;
    }

    private static String answer(String name, String arguments) {
        String[] texts = arguments.isEmpty() ? new String[0] : arguments.split(", ");
        Object[] numbers = new Object[texts.length];
        Class<?>[] types = new Class<?>[texts.length];
        for (int i = 0; i < texts.length; i++) {
            numbers[i] = Long.decode(texts[i]).intValue();
            types[i] = int.class;
        }
        try {
            Method method = JarsThatLeak.class.getMethod(name, types);
            return String.valueOf(method.invoke(jars, numbers));
        } catch (InvocationTargetException e) {
            return e.getCause() instanceof NoSuchElementException ? "NoSuchElementException" : e.getCause().toString();
        } catch (ReflectiveOperationException e) {
            return "no such call";
        }
    }

    static void tell(JarsThatLeak jars, String text) {
        jars.end(0);
        for (int i = 0; i < text.length(); i += 4) {
            int v = 0;
            for (int k = i; k < i + 4; k++) {
                v = v << 8 | (k < text.length() ? text.charAt(k) : 0);
            }
            jars.sign(v);
        }
        jars.end(text.length());
    }
}
