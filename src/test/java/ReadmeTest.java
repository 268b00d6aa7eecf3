import java.io.IOException;
import java.lang.reflect.Method;
import java.nio.file.Files;
import java.nio.file.Path;
import java.util.Set;
import java.util.TreeSet;
import java.util.regex.Matcher;
import java.util.regex.Pattern;

/** What README.md says that its lines answer is what they answer, and no call is left out there. */
public final class ReadmeTest {
    private static final Pattern BLOCK = Pattern.compile("(?s)```java\n(.*?)```");
    private static final Pattern MADE = Pattern.compile("x = new GuardedCode\\(\\);");
    private static final Pattern TOLD = Pattern.compile("tell\\(x, \"([^\"]*)\"\\); +// (-?\\d+): .+");
    private static final Pattern CALLED = Pattern.compile("x\\.(\\w+)\\(([^)]*)\\); +// (-?\\d+): .+");

    private static final Set<String> called = new TreeSet<>();
    private static GuardedCode x;

    public static void main(String[] args) throws IOException, ReflectiveOperationException {
        String page = Files.readString(Path.of(args.length > 2 ? args[2] : "README.md"));
        Matcher block = BLOCK.matcher(page);
        while (block.find()) {
            if (!block.group(1).startsWith("static int tell(")) {
                runLines(block.group(1).split("\n"));
            }
        }
        for (Method call : GuardedCode.class.getMethods()) {
            if (call.getDeclaringClass() == GuardedCode.class) {
                Check.holds("that README.md shows " + call.getName(), called.contains(call.getName()));
            }
        }
        Check.holds("that README.md says how the tests are run", page.contains("\n    .ci/run\n"));
        Check.finish();
    }

    private static void runLines(String[] lines) throws ReflectiveOperationException {
        for (String line : lines) {
            Matcher told = TOLD.matcher(line);
            Matcher call = CALLED.matcher(line);
            if (MADE.matcher(line).matches()) {
                x = new GuardedCode();
            } else if (told.matches()) {
                called.add("text");
                Check.due(line, Check.tell(x, told.group(1)), Long.parseLong(told.group(2)));
            } else if (call.matches()) {
                Check.due(line, answerOf(call.group(1), call.group(2)), Long.parseLong(call.group(3)));
            } else {
                Check.holds("that a line of README.md is a call with its answer: " + line, false);
            }
        }
    }

    private static long answerOf(String name, String arguments) throws ReflectiveOperationException {
        String[] words = arguments.isEmpty() ? new String[0] : arguments.split(", ");
        Class<?>[] types = new Class<?>[words.length];
        Object[] values = new Object[words.length];
        for (int at = 0; at < words.length; at++) {
            types[at] = int.class;
            values[at] = words[at].startsWith("'") ? words[at].charAt(1) : Integer.parseInt(words[at]);
        }
        called.add(name);
        return ((Number) GuardedCode.class.getMethod(name, types).invoke(x, values)).longValue();
    }
}
