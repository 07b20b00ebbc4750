import java.io.IOException;
import java.lang.reflect.InvocationTargetException;
import java.lang.reflect.Method;
import java.nio.file.Files;
import java.nio.file.Path;
import java.util.Arrays;
import java.util.regex.Matcher;
import java.util.regex.Pattern;

/** README.md says how to use the class: its example's answers and its tables of calls are held to the class. */
public final class ReadmeTest {
    private static final Pattern ROW = Pattern.compile("(?m)^book\\.(\\w+)\\(([-\\d, ]*)\\);\\s*// (-?\\d+)$");
    private static final Pattern CALL = Pattern.compile("(?m)^    public int (\\w+)\\(([^)]*)\\)");
    private static int wrong = 0;

    private static void fault(String text) {
        wrong++;
        System.out.println(text);
    }

    public static void main(String[] args) throws IOException, ReflectiveOperationException {
        String readme = Files.readString(Path.of("README.md"));
        int rows = example(readme);
        int calls = tables(readme, Files.readString(Path.of("src/main/java/BridleBook.java")));
        constants(readme);
        howToRunTests(readme);
        System.out.println(rows + " rows and " + calls + " calls of README.md, " + wrong + " wrong");
        if (wrong != 0) {
            System.exit(1);
        }
    }

    /** The rows in their order on one new object, as a reader would try them. */
    private static int example(String readme) throws ReflectiveOperationException {
        BridleBook book = new BridleBook();
        Matcher row = ROW.matcher(readme);
        int rows = 0;
        while (row.find()) {
            rows++;
            int got = answer(book, row.group(1), numbers(row.group(2)));
            if (got != Integer.parseInt(row.group(3))) {
                fault(row.group() + " answered " + got);
            }
        }
        long written = readme.lines().filter(line -> line.startsWith("book.")).count();
        if (rows == 0 || rows != written) {
            fault(rows + " of " + written + " rows of the example can be read");
        }
        return rows;
    }

    private static Object[] numbers(String list) {
        return list.isBlank() ? new Object[0]
            : Arrays.stream(list.split(",")).map(text -> Integer.parseInt(text.trim())).toArray();
    }

    private static int answer(BridleBook book, String name, Object[] numbers) throws ReflectiveOperationException {
        Class<?>[] types = new Class<?>[numbers.length];
        Arrays.fill(types, int.class);
        Method call = BridleBook.class.getMethod(name, types);
        try {
            return (Integer) call.invoke(book, numbers);
        } catch (InvocationTargetException thrown) {
            fault(name + Arrays.toString(numbers) + " threw " + thrown.getCause());
            return BridleBook.VOID;
        }
    }

    private static int tables(String readme, String source) {
        Matcher call = CALL.matcher(source);
        int calls = 0;
        while (call.find()) {
            calls++;
            String entry = "| `" + call.group(1) + "(" + call.group(2).replace("int ", "") + ")` |";
            if (!readme.contains(entry)) {
                fault("README.md does not have " + entry);
            }
        }
        if (calls != 31) {
            fault(calls + " calls found in the class");
        }
        return calls;
    }

    private static void constants(String readme) {
        constant(readme, "BAD", BridleBook.BAD);
        constant(readme, "NOT", BridleBook.NOT);
        constant(readme, "FULL", BridleBook.FULL);
        constant(readme, "VOID", BridleBook.VOID);
    }

    private static void constant(String readme, String name, int value) {
        if (!readme.contains("| `" + name + "` | " + value + " |")) {
            fault("README.md does not say that " + name + " is " + value);
        }
    }

    private static void howToRunTests(String readme) throws IOException {
        if (!readme.contains("\n    .ci/run\n")) {
            fault("README.md does not say how to run the tests");
        }
        try (var files = Files.list(Path.of("src/test/java"))) {
            files.map(file -> file.getFileName().toString().replace(".java", ""))
                .filter(name -> !readme.contains("`" + name + "`"))
                .forEach(name -> fault("README.md does not name the test " + name));
        }
    }
}
