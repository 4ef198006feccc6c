import java.io.IOException;
import java.io.UncheckedIOException;
import java.nio.charset.StandardCharsets;
import java.nio.file.Files;
import java.nio.file.Path;
import java.util.ArrayList;
import java.util.LinkedHashMap;
import java.util.List;
import java.util.Map;
import java.util.regex.Matcher;
import java.util.regex.Pattern;

/** What ../shared/DOC.md tells: its sentences, section by section, and the calls of its public face. */
final class Document {
    private static final Path PLACE = Path.of("../shared/DOC.md");
    private static final Pattern CALL = Pattern.compile(
            "    (public (\\w+) (\\w+)\\(([^)]*)\\)(?: throws ([\\w, ]+))?);");
    private static final Pattern PROMISE = Pattern.compile("## Promise (\\d+): (\\w+)");
    private static final Pattern AHEAD = Pattern.compile("Ahead of the calls (.*) the interface says: (.*)\\.");

    /** A call as the public face declares it. */
    record Call(String declared, String answer, String name, List<String> types, List<String> parameters,
            List<String> exceptions) {
    }

    private Document() {
    }

    static List<Call> face() {
        List<Call> found = new ArrayList<>();
        for (String line : lines()) {
            Matcher call = CALL.matcher(line);
            if (call.matches()) {
                List<String> types = new ArrayList<>();
                List<String> parameters = new ArrayList<>();
                for (String parameter : parts(call.group(4))) {
                    types.add(parameter.split(" ")[0]);
                    parameters.add(parameter.split(" ")[1]);
                }
                found.add(new Call(call.group(1), call.group(2), call.group(3), types, parameters,
                        parts(call.group(5))));
            }
        }
        return found;
    }

    private static List<String> parts(String listed) {
        return listed == null || listed.isEmpty() ? List.of() : List.of(listed.split(", "));
    }

    /** The numbers of the promises, by the call that each is for. */
    static Map<String, Integer> promises() {
        Map<String, Integer> found = new LinkedHashMap<>();
        for (String line : lines()) {
            Matcher promise = PROMISE.matcher(line);
            if (promise.matches()) {
                found.put(promise.group(2), Integer.parseInt(promise.group(1)));
            }
        }
        return found;
    }

    /** What the interface says ahead of each call. */
    static Map<String, String> saidAhead() {
        Map<String, String> found = new LinkedHashMap<>();
        for (String line : lines()) {
            Matcher ahead = AHEAD.matcher(line);
            if (ahead.matches()) {
                for (String call : parts(ahead.group(1))) {
                    found.put(call.replace("`", ""), ahead.group(2));
                }
            }
        }
        return found;
    }

    /**
     * Cut at full stops, semicolons and lines. The section is told by how its heading begins, up to a
     * colon or the heading's end.
     */
    static List<String> sentences(String section) {
        List<String> found = new ArrayList<>();
        boolean within = false;
        for (String line : lines()) {
            if (line.startsWith("## ")) {
                within = line.substring(3).split(":")[0].equals(section);
            } else if (within && !line.isBlank()) {
                for (String sentence : withoutSignature(line).split("(?<=[.;]) ")) {
                    found.add(sentence);
                }
            }
        }
        return found;
    }

    /** The call that heads a promise is the business of the FaceTest. */
    private static String withoutSignature(String line) {
        int end = line.indexOf("`: ");
        return line.startsWith("`") && end > 0 ? line.substring(end + 3) : line;
    }

    static List<String> lines() {
        try {
            return Files.readAllLines(PLACE, StandardCharsets.UTF_8);
        } catch (IOException e) {
            throw new UncheckedIOException(e);
        }
    }
}
