import java.io.IOException;
import java.lang.reflect.Constructor;
import java.lang.reflect.Field;
import java.lang.reflect.Method;
import java.lang.reflect.Modifier;
import java.nio.charset.StandardCharsets;
import java.nio.file.Files;
import java.nio.file.Path;
import java.util.ArrayList;
import java.util.HashMap;
import java.util.List;
import java.util.Map;
import java.util.Set;
import java.util.TreeMap;
import java.util.TreeSet;

/** The public face to the letter, as the document tells it, and those rules of LANGUAGE.md that can be seen from outside. */
public final class FaceTest {
    private static final String[] RULED_OUT = {
        "import ", "->", "::", "finally", "synchronized", "assert", "static {", "catch", "System.", "hashCode",
        "toString", "package ",
    };

    private FaceTest() {
    }

    public static void main(String[] args) throws IOException {
        face();
        nestedClasses();
        source();
        Kit.end("FaceTest");
    }

    private static void face() {
        Class<?> face = TwinRegister.class;
        Kit.due("public and final", Modifier.isPublic(face.getModifiers()) && Modifier.isFinal(face.getModifiers()), true);
        Set<String> open = new TreeSet<>();
        Set<String> closed = new TreeSet<>();
        for (Method method : face.getDeclaredMethods()) {
            if (Modifier.isPublic(method.getModifiers())) {
                open.add(told(method));
            } else {
                closed.add(method.getName());
                Kit.due(method + " private", Modifier.isPrivate(method.getModifiers()), true);
            }
        }
        Set<String> due = new TreeSet<>();
        for (Document.Call call : Document.face()) {
            due.add(told(call.answer(), call.name(), call.types(), call.exceptions()));
            Kit.due(call.name() + " is no private name", closed.contains(call.name()), false);
        }
        Kit.due("the methods", String.join("\n", open), String.join("\n", due));
        Kit.due("calls in the document", due.size(), 23);
        Constructor<?>[] constructors = face.getDeclaredConstructors();
        Kit.due("constructors", constructors.length, 1);
        Kit.due("promise 1: the constructor is public", Modifier.isPublic(constructors[0].getModifiers()), true);
        Kit.due("promise 1: the constructor takes nothing", constructors[0].getParameterCount(), 0);
        dueClosed(face);
    }

    private static String told(Method method) {
        return told(method.getReturnType().getSimpleName(), method.getName(), names(method.getParameterTypes()),
                names(method.getExceptionTypes()));
    }

    private static String told(String answer, String name, List<String> types, List<String> exceptions) {
        return answer + " " + name + types + " throws " + exceptions;
    }

    private static List<String> names(Class<?>[] types) {
        List<String> found = new ArrayList<>();
        for (Class<?> type : types) {
            found.add(type.getSimpleName());
        }
        return found;
    }

    private static void dueClosed(Class<?> kind) {
        int varying = 0;
        for (Field field : kind.getDeclaredFields()) {
            Kit.due(field + " private", Modifier.isPrivate(field.getModifiers()), true);
            if (Modifier.isStatic(field.getModifiers())) {
                Kit.due(field + " final", Modifier.isFinal(field.getModifiers()), true);
            } else {
                varying++;
            }
        }
        Kit.due(kind + " has some twenty fields at most", varying <= 20, true);
    }

    private static void nestedClasses() {
        Class<?>[] nested = TwinRegister.class.getDeclaredClasses();
        Kit.due("some twelve classes at most", nested.length <= 11, true);
        for (Class<?> kind : nested) {
            Kit.due(kind + " static", Modifier.isStatic(kind.getModifiers()), true);
            Kit.due(kind + " closed", Modifier.isPublic(kind.getModifiers()) || Modifier.isProtected(kind.getModifiers()), false);
            dueClosed(kind);
        }
    }

    private static void source() throws IOException {
        String text = Files.readString(Path.of("src/main/java/TwinRegister.java"), StandardCharsets.UTF_8);
        for (String word : RULED_OUT) {
            Kit.due("the source has '" + word + "'", text.contains(word), false);
        }
        int strange = 0;
        for (int at = 0; at < text.length(); at++) {
            if (text.charAt(at) > 126) {
                strange++;
            }
        }
        Kit.due("signs beyond 126", strange, 0);
        declarations(text);
        saidAhead(text);
    }

    /** Reflection does not tell the parameters' names. */
    private static void declarations(String text) {
        String oneLine = text.replaceAll("\\s+", " ");
        for (Document.Call call : Document.face()) {
            Kit.due("the source has " + call.declared(), oneLine.contains(" " + call.declared() + " {"), true);
        }
        Kit.due("the class, its constructor and its calls alone are public", text.split("\\bpublic ").length - 1,
                2 + Document.face().size());
    }

    /** The interface's headings stand ahead of the same calls as in the document. */
    private static void saidAhead(String text) {
        Map<String, String> found = new HashMap<>();
        String said = "";
        for (String line : text.split("\n")) {
            if (line.startsWith("    // ---- ")) {
                said = line.substring(7);
            } else if (line.startsWith("    public ") && !said.isEmpty()) {
                found.put(line.substring(line.lastIndexOf(' ', line.indexOf('(')) + 1, line.indexOf('(')), said);
            }
        }
        Kit.due("what is said ahead of the calls", new TreeMap<>(found).toString(),
                new TreeMap<>(Document.saidAhead()).toString());
        Kit.due("calls with something said ahead of them", found.size(), Document.face().size());
    }
}
