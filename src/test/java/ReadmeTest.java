import java.io.IOException;
import java.lang.reflect.Method;
import java.nio.file.Files;
import java.nio.file.Path;
import java.util.Set;
import java.util.TreeSet;
import java.util.regex.Matcher;
import java.util.regex.Pattern;

/** The calls in README.md answer what stands behind them, and its table has every call of the face. */
public final class ReadmeTest {
    private static final Pattern CALL = Pattern.compile("heap\\.(\\w+)\\(([^)]*)\\);");
    private static final Pattern ANSWER = Pattern.compile("// (-?\\w+)");
    private static final Pattern ROW = Pattern.compile("\\| `(\\w+)\\(");

    private ReadmeTest() {
    }

    public static void main(String[] args) throws IOException, ReflectiveOperationException {
        BookmarkHeap heap = null;
        int answers = 0;
        Set<String> rows = new TreeSet<>();
        for (String line : Files.readAllLines(Path.of("README.md"))) {
            if (line.contains("new BookmarkHeap()")) {
                heap = new BookmarkHeap();
            } else if (line.startsWith("heap.")) {
                checkLine(heap, line);
                answers++;
            }
            Matcher row = ROW.matcher(line);
            if (row.lookingAt()) {
                rows.add(row.group(1));
            }
        }
        Due.is("there are answers in README.md", answers > 0, true);
        Due.is("the calls in README.md's table", rows, namesOfFace());
        Due.end();
    }

    /** Of several calls in a line the last one's answer stands behind them. */
    private static void checkLine(BookmarkHeap heap, String line) throws ReflectiveOperationException {
        Matcher call = CALL.matcher(line);
        String last = "no answer";
        while (call.find()) {
            last = String.valueOf(answer(heap, call.group(1), call.group(2)));
        }
        Matcher answer = ANSWER.matcher(line);
        Due.is("README.md: " + line, last, answer.find() ? answer.group(1) : "no answer in the line");
    }

    private static Object answer(BookmarkHeap heap, String name, String arguments) throws ReflectiveOperationException {
        String[] texts = arguments.isEmpty() ? new String[0] : arguments.split(", ");
        Object[] numbers = new Object[texts.length];
        Class<?>[] types = new Class<?>[texts.length];
        for (int i = 0; i < texts.length; i++) {
            numbers[i] = Integer.valueOf(texts[i]);
            types[i] = int.class;
        }
        return BookmarkHeap.class.getMethod(name, types).invoke(heap, numbers);
    }

    private static Set<String> namesOfFace() {
        Set<String> names = new TreeSet<>();
        for (Method method : BookmarkHeap.class.getMethods()) {
            if (method.getDeclaringClass() == BookmarkHeap.class) {
                names.add(method.getName());
            }
        }
        return names;
    }
}
