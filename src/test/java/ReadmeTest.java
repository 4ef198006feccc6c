import java.io.IOException;
import java.lang.reflect.InvocationTargetException;
import java.lang.reflect.Method;
import java.nio.charset.StandardCharsets;
import java.nio.file.DirectoryStream;
import java.nio.file.Files;
import java.nio.file.Path;
import java.util.ArrayList;
import java.util.HashSet;
import java.util.List;
import java.util.Map;
import java.util.Set;
import java.util.TreeSet;
import java.util.regex.Matcher;
import java.util.regex.Pattern;

/** What README.md tells holds: each answer in its runs of calls, its tables of calls, the tests that it names. */
public final class ReadmeTest {
    private static final Path PLACE = Path.of("README.md");
    private static final Path TESTS = Path.of("src/test/java");
    private static final int MOST_CALLS = 512;
    private static final String MADE = "TwinRegister register = new TwinRegister();";
    private static final Pattern CALLED = Pattern.compile(
            "register\\.(\\w+)\\(([-0-9, ]*)\\); +// (?:throws )?([-\\w]+)(?:: .+)?");
    private static final Pattern LISTED = Pattern.compile("`(\\w+)\\(([^)]*)\\)`");
    private static final Pattern EXCEPTION = Pattern.compile("`(\\w+Exception)`");
    private static final Pattern NAMED_TEST = Pattern.compile("`src/test/java/(\\w+\\.java)`");
    private static final Map<String, Integer> PROMISES = Document.promises();

    private static final Set<String> shown = new HashSet<>();
    private static final Set<String> shownThrown = new TreeSet<>();

    private ReadmeTest() {
    }

    public static void main(String[] args) throws IOException {
        List<String> lines = Files.readAllLines(PLACE, StandardCharsets.UTF_8);
        runs(lines);
        tables(lines);
        callsOfAnObject(lines);
        namedTests(lines);
        Kit.end("ReadmeTest");
    }

    // ---- its runs of calls

    private static void runs(List<String> lines) {
        boolean within = false;
        TwinRegister register = null;
        int calls = 0;
        for (int at = 0; at < lines.size(); at++) {
            String line = lines.get(at);
            String place = "README.md, line " + (at + 1) + ", " + line;
            if (line.startsWith("```")) {
                within = line.equals("```java");
                register = null;
            } else if (within && line.equals(MADE)) {
                register = new TwinRegister();
                calls = 0;
            } else if (within) {
                calls++;
                Kit.due(place + " has an object", register != null, true);
                dueAnswer(place, register, line);
                Kit.due(place + " is within the calls of an object", calls <= MOST_CALLS, true);
            }
        }
        for (Document.Call call : Document.face()) {
            Kit.due("README.md shows an answer of " + call.name(), shown.contains(call.name()), true);
        }
        Kit.due("README.md shows each exception", shownThrown.toString(),
                "[IllegalArgumentException, IllegalStateException, IndexOutOfBoundsException]");
    }

    private static void dueAnswer(String place, TwinRegister register, String line) {
        Matcher call = CALLED.matcher(line);
        boolean understood = call.matches();
        Kit.due(place + " is a call and its answer", understood, true);
        if (!understood || register == null) {
            return;
        }
        String name = call.group(1);
        String want = call.group(3);
        Kit.due("promise " + PROMISES.get(name) + ", " + place, answer(register, name, numbers(call.group(2))), want);
        if (want.endsWith("Exception")) {
            shownThrown.add(want);
        } else {
            shown.add(name);
        }
    }

    private static Object[] numbers(String listed) {
        List<Object> found = new ArrayList<>();
        for (String number : listed.split(", ")) {
            if (!number.isEmpty()) {
                found.add(Integer.valueOf(number));
            }
        }
        return found.toArray();
    }

    private static String answer(TwinRegister register, String name, Object[] numbers) {
        for (Method method : TwinRegister.class.getMethods()) {
            if (method.getName().equals(name) && method.getParameterCount() == numbers.length) {
                try {
                    return String.valueOf(method.invoke(register, numbers));
                } catch (InvocationTargetException e) {
                    return e.getCause().getClass().getSimpleName();
                } catch (IllegalAccessException e) {
                    return "no access";
                }
            }
        }
        return "no such call";
    }

    // ---- its tables of calls

    private static void tables(List<String> lines) {
        Set<String> listed = new HashSet<>();
        for (String line : lines) {
            if (line.startsWith("| ") && !line.startsWith("| Promise ")) {
                dueRow(line, listed);
            }
        }
        for (Document.Call call : Document.face()) {
            Kit.due("README.md lists " + call.name(), listed.contains(call.name()), true);
        }
    }

    /** Number, call, what it does, what it throws; the parameters and exceptions in the document's order. */
    private static void dueRow(String line, Set<String> listed) {
        String[] cells = line.split("\\|");
        Kit.due("cells of " + line, cells.length, 5);
        if (cells.length != 5) {
            return;
        }
        Matcher told = LISTED.matcher(cells[2].strip());
        Kit.due("the call of " + line, told.matches(), true);
        if (!told.matches()) {
            return;
        }
        String name = told.group(1);
        Kit.due(name + " is listed once", listed.add(name), true);
        Kit.due("the promise of " + name, cells[1].strip(), String.valueOf(PROMISES.get(name)));
        Kit.due("what README.md tells of " + name, cells[3].isBlank(), false);
        List<String> exceptions = new ArrayList<>();
        Matcher thrown = EXCEPTION.matcher(cells[4]);
        while (thrown.find()) {
            exceptions.add(thrown.group(1));
        }
        String want = "no such call";
        for (Document.Call call : Document.face()) {
            if (call.name().equals(name)) {
                want = String.join(", ", call.parameters()) + " throws " + call.exceptions();
            }
        }
        Kit.due("README.md's row of " + name, told.group(2) + " throws " + exceptions, want);
    }

    // ---- what else it tells

    private static void callsOfAnObject(List<String> lines) {
        String document = String.join(" ", Document.lines());
        String readme = String.join(" ", lines);
        Kit.due("the document's number of calls", document.contains("at most " + MOST_CALLS + " calls"), true);
        Kit.due("README.md's number of calls", readme.contains("made for " + MOST_CALLS + " calls"), true);
    }

    private static void namedTests(List<String> lines) throws IOException {
        Set<String> named = new TreeSet<>();
        Matcher found = NAMED_TEST.matcher(String.join("\n", lines));
        while (found.find()) {
            named.add(found.group(1));
            Kit.due(found.group(1) + " is there", Files.exists(TESTS.resolve(found.group(1))), true);
        }
        try (DirectoryStream<Path> tests = Files.newDirectoryStream(TESTS, "*Test.java")) {
            for (Path test : tests) {
                String name = test.getFileName().toString();
                Kit.due("README.md names " + name, named.contains(name), true);
            }
        }
    }
}
