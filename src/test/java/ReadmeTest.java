import java.io.IOException;
import java.lang.reflect.Method;
import java.nio.file.Files;
import java.nio.file.Path;
import java.util.LinkedHashMap;
import java.util.List;
import java.util.Map;
import java.util.TreeSet;
import java.util.regex.Matcher;
import java.util.regex.Pattern;

/** What README.md tells of the class: the answers of its example, and its table of calls. */
public final class ReadmeTest {
    private static final Path README = Path.of("README.md");
    private static final Pattern EXAMPLE = Pattern.compile("bench\\.(.+);\\s+// (throws )?([-\\w]+).*");
    private static final Pattern CALL = Pattern.compile("\\| `(\\w+)\\(([\\w, ]+)\\)` \\| [^|]+ \\| ([^|]+) \\|");
    private static final Pattern EXCEPTION = Pattern.compile("\\w+Exception");

    private static final Expect expect = new Expect("ReadmeTest");

    public static void main(String[] args) throws IOException {
        List<String> readme = Files.readAllLines(README);
        example(readme);
        table(readme);
        expect.end();
    }

    /** The README tells what is due; here is only how each of its lines is called. */
    private static Map<String, Expect.Call> callsOf(FaultBench bench) {
        Map<String, Expect.Call> calls = new LinkedHashMap<>();
        calls.put("write(3, true, 0, 200)", () -> bench.write(3, true, 0, 200));
        calls.put("read(3, true, 0)", () -> bench.read(3, true, 0));
        calls.put("read(3, true, 7)", () -> bench.read(3, true, 7));
        calls.put("length(3, false)", () -> bench.length(3, false));
        calls.put("make(6, 44)", () -> bench.make(6, 44));
        calls.put("grid(2, 3)", () -> bench.grid(2, 3));
        calls.put("cell(1, 2)", () -> bench.cell(1, 2));
        calls.put("boxes(2, true)", () -> bench.boxes(2, true));
        calls.put("put(true, 0, 1, 5)", () -> bench.put(true, 0, 1, 5));
        calls.put("put(true, 0, 2, 5)", () -> bench.put(true, 0, 2, 5));
        calls.put("value(0)", () -> bench.value(0));
        calls.put("change(0, 6)", () -> bench.change(0, 6));
        calls.put("weigh(0, 1)", () -> bench.weigh(0, 1));
        calls.put("roll(0, 1)", () -> bench.roll(0, 1));
        calls.put("value(1)", () -> bench.value(1));
        calls.put("divide(-7, 2, true)", () -> bench.divide(-7, 2, true));
        calls.put("divideLong(-7, 2, false)", () -> bench.divideLong(-7, 2, false));
        calls.put("raise(true)", () -> bench.raise(true));
        return calls;
    }

    private static void example(List<String> readme) {
        Map<String, Expect.Call> calls = callsOf(new FaultBench());
        StringBuilder told = new StringBuilder();
        for (String line : readme) {
            Matcher found = EXAMPLE.matcher(line);
            if (!found.matches()) {
                continue;
            }
            told.append(found.group(1)).append('\n');
            Expect.Call call = calls.get(found.group(1));
            if (call != null) {
                String due = found.group(2) == null ? found.group(3) : "throws.java.lang." + found.group(3);
                expect.same(due, found.group(1), Expect.outcome(call));
            }
        }
        expect.same(String.join("\n", calls.keySet()) + "\n", "the example's calls", told.toString());
    }

    /** Each call has its row, with as many parameters and with its exceptions in their order. */
    private static void table(List<String> readme) {
        TreeSet<String> told = new TreeSet<>();
        for (String line : readme) {
            Matcher found = CALL.matcher(line);
            if (found.matches()) {
                told.add(found.group(1) + " of " + found.group(2).split(", ").length + exceptionsIn(found.group(3)));
            }
        }
        TreeSet<String> due = new TreeSet<>();
        for (Method method : FaultBench.class.getMethods()) {
            if (method.getDeclaringClass() == FaultBench.class) {
                due.add(method.getName() + " of " + method.getParameterCount() + exceptionsOf(method));
            }
        }
        expect.same(due.toString(), "the table of calls", told.toString());
    }

    private static String exceptionsIn(String text) {
        StringBuilder names = new StringBuilder();
        Matcher found = EXCEPTION.matcher(text);
        while (found.find()) {
            names.append(' ').append(found.group());
        }
        return names.toString();
    }

    private static String exceptionsOf(Method method) {
        StringBuilder names = new StringBuilder();
        for (Class<?> type : method.getExceptionTypes()) {
            names.append(' ').append(type.getSimpleName());
        }
        return names.toString();
    }
}
