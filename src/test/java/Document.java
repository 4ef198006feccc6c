import java.io.IOException;
import java.io.UncheckedIOException;
import java.nio.charset.StandardCharsets;
import java.nio.file.Files;
import java.nio.file.Path;
import java.util.ArrayList;
import java.util.List;

/** The sentences of ../shared/DOC.md, section by section, cut at full stops, semicolons and lines. */
final class Document {
    private static final Path PLACE = Path.of("../shared/DOC.md");

    private Document() {
    }

    /** The section is told by how its heading begins, up to a colon or the heading's end. */
    static List<String> sentences(String section) {
        List<String> found = new ArrayList<>();
        boolean within = false;
        for (String line : lines()) {
            if (line.startsWith("## ")) {
                within = line.substring(3).split(":")[0].equals(section);
            } else if (within && !line.isBlank()) {
                for (String sentence : withoutSignature(line).split("(?<=[.;]) ")) {
                    found.add(sentence);
                }
            }
        }
        return found;
    }

    /** The call that heads a promise is the business of the FaceTest. */
    private static String withoutSignature(String line) {
        int end = line.indexOf("`: ");
        return line.startsWith("`") && end > 0 ? line.substring(end + 3) : line;
    }

    private static List<String> lines() {
        try {
            return Files.readAllLines(PLACE, StandardCharsets.UTF_8);
        } catch (IOException e) {
            throw new UncheckedIOException(e);
        }
    }
}
