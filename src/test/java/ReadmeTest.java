import java.lang.reflect.Method;
import java.lang.reflect.Modifier;
import java.nio.file.Files;
import java.nio.file.Path;
import java.util.Arrays;
import java.util.Set;
import java.util.TreeSet;
import java.util.regex.Matcher;
import java.util.regex.Pattern;

/** What README.md tells: its example, call by call, and a row for each method. */
public final class ReadmeTest {
    private static final Pattern EXAMPLE = Pattern.compile("(?m)^book\\.(\\w+)\\((.*?)\\); *// (-?\\d+|true)\\b");

    public static void main(String[] args) throws Exception {
        String text = Files.readString(Path.of("README.md"));
        Set<String> shown = example(text);
        for (Method m : TeaBook.class.getDeclaredMethods()) {
            if (Modifier.isPublic(m.getModifiers())) {
                Check.due("the example has " + m.getName(), true, shown.contains(m.getName()));
                Check.due("a row tells " + m.getName(), m.getParameterCount(), namesInRow(text, m.getName()));
            }
        }
        for (String told : new String[] {"new TeaBook()", "`NONE` is -1", "512 calls", "\n    .ci/run\n"}) {
            Check.due("README tells " + told.trim(), true, text.contains(told));
        }
        Check.finish();
    }

    /** Makes the calls of the example on one book: the names of those that were made. */
    private static Set<String> example(String text) {
        Set<String> names = new TreeSet<>();
        Book book = new Book();
        Matcher m = EXAMPLE.matcher(text);
        int calls = 0;
        while (m.find()) {
            int[] numbers = m.group(2).isEmpty() ? new int[0]
                    : Arrays.stream(m.group(2).split(", ")).mapToInt(Integer::decode).toArray();
            Call call = new Call(m.group(1), numbers);
            int want = m.group(3).equals("true") ? 1 : Integer.parseInt(m.group(3));
            Check.due("README: " + call, want, call.on(book));
            names.add(call.name());
            calls++;
        }
        Check.due("calls in the example", text.split("\nbook\\.", -1).length - 1, calls);
        return names;
    }

    /** How many numbers the row of a method names; NONE without such a row. */
    private static int namesInRow(String text, String method) {
        Matcher m = Pattern.compile("(?m)^\\| `" + method + "\\((.*?)\\)` \\| \\S").matcher(text);
        if (!m.find()) {
            return TeaBook.NONE;
        }
        return m.group(1).isEmpty() ? 0 : m.group(1).split(", ").length;
    }
}
