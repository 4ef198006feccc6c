import java.io.IOException;
import java.lang.reflect.Constructor;
import java.lang.reflect.Field;
import java.lang.reflect.Method;
import java.lang.reflect.Modifier;
import java.nio.charset.StandardCharsets;
import java.nio.file.Files;
import java.nio.file.Path;
import java.util.Set;
import java.util.TreeSet;

/** The public face to the letter, and those rules of LANGUAGE.md that can be seen from outside. */
public final class FaceTest {
    private static final String[] FACE = {
        "boolean sleep(int) IndexOutOfBoundsException",
        "int addJob(int,int,int,int,int) IndexOutOfBoundsException IllegalArgumentException IllegalStateException",
        "int cancel(int) IndexOutOfBoundsException IllegalStateException",
        "int devices(int,int) IndexOutOfBoundsException IllegalArgumentException",
        "int differences(int) IndexOutOfBoundsException",
        "int differencesAnew(int) IndexOutOfBoundsException",
        "int drop(int) IndexOutOfBoundsException",
        "int heard(int) IndexOutOfBoundsException",
        "int jobs()",
        "int members(int) IndexOutOfBoundsException",
        "int obey(int) IndexOutOfBoundsException IllegalStateException",
        "int put(int,int) IndexOutOfBoundsException IllegalArgumentException",
        "int refuse(int,int,int) IndexOutOfBoundsException IllegalArgumentException IllegalStateException",
        "int report(int,int) IndexOutOfBoundsException IllegalArgumentException IllegalStateException",
        "int reported(int,int) IndexOutOfBoundsException",
        "int setGroup(int,int,int,int) IndexOutOfBoundsException IllegalArgumentException",
        "int state(int) IndexOutOfBoundsException",
        "int version(int) IndexOutOfBoundsException",
        "int wake(int) IndexOutOfBoundsException",
        "int wave()",
        "int why(int,int) IndexOutOfBoundsException",
        "int wish(int,int) IndexOutOfBoundsException IllegalStateException",
        "int wished(int,int) IndexOutOfBoundsException",
    };
    private static final String[] RULED_OUT = {
        "import ", "->", "::", "finally", "synchronized", "assert", "static {", "catch", "System.", "hashCode",
        "toString", "package ",
    };

    private FaceTest() {
    }

    public static void main(String[] args) throws IOException {
        face();
        nestedClasses();
        source();
        Kit.end("FaceTest");
    }

    private static void face() {
        Class<?> face = TwinRegister.class;
        Kit.due("public and final", Modifier.isPublic(face.getModifiers()) && Modifier.isFinal(face.getModifiers()), true);
        Set<String> open = new TreeSet<>();
        Set<String> closed = new TreeSet<>();
        for (Method method : face.getDeclaredMethods()) {
            if (Modifier.isPublic(method.getModifiers())) {
                open.add(told(method));
            } else {
                closed.add(method.getName());
                Kit.due(method + " private", Modifier.isPrivate(method.getModifiers()), true);
            }
        }
        Kit.due("the methods", String.join("\n", open), String.join("\n", new TreeSet<>(Set.of(FACE))));
        for (String line : FACE) {
            String name = line.substring(line.indexOf(' ') + 1, line.indexOf('('));
            Kit.due(name + " is no private name", closed.contains(name), false);
        }
        Constructor<?>[] constructors = face.getDeclaredConstructors();
        Kit.due("constructors", constructors.length, 1);
        Kit.due("the constructor is public", Modifier.isPublic(constructors[0].getModifiers()), true);
        Kit.due("the constructor takes nothing", constructors[0].getParameterCount(), 0);
        dueClosed(face);
    }

    private static String told(Method method) {
        StringBuilder line = new StringBuilder();
        line.append(method.getReturnType().getSimpleName()).append(' ').append(method.getName()).append('(');
        String comma = "";
        for (Class<?> type : method.getParameterTypes()) {
            line.append(comma).append(type.getSimpleName());
            comma = ",";
        }
        line.append(')');
        for (Class<?> type : method.getExceptionTypes()) {
            line.append(' ').append(type.getSimpleName());
        }
        return line.toString();
    }

    private static void dueClosed(Class<?> kind) {
        int varying = 0;
        for (Field field : kind.getDeclaredFields()) {
            Kit.due(field + " private", Modifier.isPrivate(field.getModifiers()), true);
            if (Modifier.isStatic(field.getModifiers())) {
                Kit.due(field + " final", Modifier.isFinal(field.getModifiers()), true);
            } else {
                varying++;
            }
        }
        Kit.due(kind + " has some twenty fields at most", varying <= 20, true);
    }

    private static void nestedClasses() {
        Class<?>[] nested = TwinRegister.class.getDeclaredClasses();
        Kit.due("some twelve classes at most", nested.length <= 11, true);
        for (Class<?> kind : nested) {
            Kit.due(kind + " static", Modifier.isStatic(kind.getModifiers()), true);
            Kit.due(kind + " closed", Modifier.isPublic(kind.getModifiers()) || Modifier.isProtected(kind.getModifiers()), false);
            dueClosed(kind);
        }
    }

    private static void source() throws IOException {
        String text = Files.readString(Path.of("src/main/java/TwinRegister.java"), StandardCharsets.UTF_8);
        for (String word : RULED_OUT) {
            Kit.due("the source has '" + word + "'", text.contains(word), false);
        }
        int strange = 0;
        for (int at = 0; at < text.length(); at++) {
            if (text.charAt(at) > 126) {
                strange++;
            }
        }
        Kit.due("signs beyond 126", strange, 0);
    }
}
