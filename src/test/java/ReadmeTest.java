import java.lang.reflect.Method;
import java.nio.file.Files;
import java.nio.file.Path;
import java.util.Arrays;
import java.util.HashSet;
import java.util.Set;
import java.util.TreeSet;
import java.util.regex.Matcher;
import java.util.regex.Pattern;

/** README.md: its calls answer what stands behind them, and its tables name all calls and clauses. */
public final class ReadmeTest {
    private static final Checks CHECKS = new Checks("readme");
    private static final Pattern CALL = Pattern.compile("x\\.(\\w+)\\(([^)]*)\\); +// (-?\\d+).*");
    private static final String[] CLAUSES = {"places N", "street A B M", "person P Q T V", "not K Z", "stranger X Y T",
        "finds K Z", "chance K C", "sign X Y", "guide X F", "law L"};

    public static void main(String[] args) throws Exception {
        CHECKS.about("README.md");
        String page = Files.readString(Path.of("README.md"));
        callsAnswerAsWritten(page);
        tablesNameAll(page);
        testsAreNamed(page);
        CHECKS.end();
    }

    private static void callsAnswerAsWritten(String page) throws Exception {
        LedStrangers x = new LedStrangers();
        int calls = 0;
        for (String line : page.split("\n")) {
            Matcher call = CALL.matcher(line);
            if (call.matches()) {
                CHECKS.due(line, answer(x, call.group(1), numbers(call.group(2))), Integer.parseInt(call.group(3)));
                calls++;
            }
        }
        CHECKS.due("the page shows calls", calls >= 10 ? 1 : 0, 1);
    }

    private static int[] numbers(String written) {
        return written.isEmpty() ? new int[0]
                : Arrays.stream(written.split(", ")).mapToInt(Integer::decode).toArray();
    }

    private static int answer(LedStrangers x, String name, int[] numbers) throws Exception {
        Class<?>[] types = new Class<?>[numbers.length];
        Arrays.fill(types, int.class);
        Object[] arguments = Arrays.stream(numbers).boxed().toArray();
        return (int) LedStrangers.class.getMethod(name, types).invoke(x, arguments);
    }

    private static void tablesNameAll(String page) {
        Set<String> named = new HashSet<>();
        for (String row : page.split("\n")) {
            if (row.startsWith("| ")) {
                Matcher word = Pattern.compile("`([^`]+)`").matcher(row);
                while (word.find()) {
                    named.add(word.group(1));
                }
            }
        }
        Set<String> due = new TreeSet<>(Arrays.asList(CLAUSES));
        for (Method m : LedStrangers.class.getMethods()) {
            if (m.getDeclaringClass() == LedStrangers.class) {
                due.add(m.getName());
            }
        }
        for (String name : due) {
            CHECKS.due("a table names " + name, named.contains(name) ? 1 : 0, 1);
        }
    }

    private static void testsAreNamed(String page) throws Exception {
        try (var files = Files.list(Path.of("src/test/java"))) {
            for (Path file : (Iterable<Path>) files.sorted()::iterator) {
                String name = file.getFileName().toString().replace(".java", "");
                boolean isTest = name.endsWith("Test");
                CHECKS.due("the page names " + name, !isTest || page.contains("`" + name + "`") ? 1 : 0, 1);
            }
        }
    }
}
