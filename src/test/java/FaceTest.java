import java.io.IOException;
import java.lang.reflect.Constructor;
import java.lang.reflect.Field;
import java.lang.reflect.Method;
import java.lang.reflect.Modifier;
import java.nio.charset.StandardCharsets;
import java.nio.file.Files;
import java.nio.file.Path;
import java.util.Arrays;
import java.util.List;
import java.util.TreeSet;

/** The public face as the document writes it, with what each call may throw, and nothing beside it. */
public final class FaceTest {
    private static final Check CHECK = new Check("FaceTest");

    private static final String I = "IllegalArgumentException";
    private static final String S = "IllegalStateException";
    private static final String B = "IndexOutOfBoundsException";
    private static final String N = "NoSuchElementException";

    private static final String[] FACE = {
        "int pass(1) " + I + " " + S,
        "int today(0)",
        "int setTerm(2) " + I,
        "int putFirst(1) " + I,
        "int find(6) " + I + " " + S,
        "boolean strike(1) " + B,
        "int tell(3) " + B + " " + I,
        "boolean counts(2) " + B + " " + I,
        "int things(1) " + I,
        "int thingOf(2) " + B + " " + I + " " + N,
        "int value(3) " + B + " " + I + " " + N,
        "int disputed(2) " + I,
        "int link(3) " + B + " " + I + " " + S,
        "int impact(2) " + B + " " + I + " " + N,
        "boolean failsWith(3) " + B + " " + I + " " + N,
        "int wish(4) " + I + " " + S,
        "int differing(2) " + B + " " + I,
        "int changed(3) " + I,
    };

    /** What the interface says ahead of its calls, and these calls. */
    private static final String[][] HEADS = {
        {"// ---- days and sources", "pass", "today", "setTerm", "putFirst"},
        {"// ---- finds", "find", "strike", "tell", "counts"},
        {"// ---- things", "things", "thingOf", "value", "disputed"},
        {"// ---- links and failures", "link", "impact", "failsWith"},
        {"// ---- wishes", "wish", "differing", "changed"},
    };

    public static void main(String[] args) throws IOException {
        theClass();
        theMethods();
        thePrivateRest();
        theHeads();
        theWordsOfTheDocument();
        CHECK.end();
    }

    private static void theClass() {
        Class<FoundRegister> face = FoundRegister.class;
        CHECK.due("modifiers", Modifier.PUBLIC | Modifier.FINAL, face.getModifiers());
        CHECK.due("constructors", 1, face.getDeclaredConstructors().length);
        for (Constructor<?> made : face.getDeclaredConstructors()) {
            CHECK.due("constructor", Modifier.PUBLIC, made.getModifiers());
            CHECK.due("its parameters", 0, made.getParameterCount());
            CHECK.due("its exceptions", 0, made.getExceptionTypes().length);
        }
    }

    private static String told(Method method) {
        StringBuilder text = new StringBuilder();
        text.append(method.getReturnType().getName()).append(' ').append(method.getName());
        text.append('(').append(method.getParameterCount()).append(')');
        for (Class<?> thrown : method.getExceptionTypes()) {
            text.append(' ').append(thrown.getSimpleName());
        }
        return text.toString();
    }

    private static void theMethods() {
        TreeSet<String> found = new TreeSet<>();
        for (Method method : FoundRegister.class.getDeclaredMethods()) {
            if (Modifier.isPrivate(method.getModifiers())) {
                continue;
            }
            found.add(told(method));
            CHECK.due(method.getName(), Modifier.PUBLIC, method.getModifiers());
            for (Class<?> parameter : method.getParameterTypes()) {
                CHECK.due("a parameter of " + method.getName(), int.class, parameter);
            }
        }
        CHECK.due("the methods", new TreeSet<>(Arrays.asList(FACE)), found);
    }

    /** The names of all calls. */
    static TreeSet<String> names() {
        TreeSet<String> names = new TreeSet<>();
        for (String line : FACE) {
            names.add(line.substring(line.indexOf(' ') + 1, line.indexOf('(')));
        }
        return names;
    }

    private static void thePrivateRest() {
        TreeSet<String> names = names();
        for (Field field : FoundRegister.class.getDeclaredFields()) {
            CHECK.due(field.getName(), true, Modifier.isPrivate(field.getModifiers()));
        }
        for (Class<?> inside : FoundRegister.class.getDeclaredClasses()) {
            CHECK.due(inside.getName(), true, Modifier.isStatic(inside.getModifiers()));
            for (Method method : inside.getDeclaredMethods()) {
                CHECK.due(method.getName(), false, names.contains(method.getName()));
            }
        }
        for (Method method : FoundRegister.class.getDeclaredMethods()) {
            if (Modifier.isPrivate(method.getModifiers())) {
                CHECK.due(method.getName(), false, names.contains(method.getName()));
            }
        }
    }

    private static List<String> linesOfTheProgram() throws IOException {
        return Files.readAllLines(Path.of("src/main/java/FoundRegister.java"), StandardCharsets.UTF_8);
    }

    /** Each call stands behind its head and ahead of the next one, and in the order of the face. */
    private static void theHeads() throws IOException {
        StringBuilder found = new StringBuilder();
        for (String line : linesOfTheProgram()) {
            String text = line.trim();
            if (text.startsWith("// ---- ")) {
                found.append(text).append('\n');
            } else if (line.startsWith("    public ") && !text.startsWith("public FoundRegister(")) {
                String ahead = text.substring(0, text.indexOf('('));
                found.append(ahead.substring(ahead.lastIndexOf(' ') + 1)).append('\n');
            }
        }
        String due = String.join("\n", Arrays.stream(HEADS).flatMap(Arrays::stream).toList()) + "\n";
        CHECK.due("the heads and calls of the program", due,
                found.substring(0, Math.min(due.length(), found.length())));
    }

    /** The face and the promises name each call word for word, with its parameters, as the program does. */
    private static void theWordsOfTheDocument() throws IOException {
        String program = String.join(" ", linesOfTheProgram()).replaceAll("\\s+", " ");
        int calls = 0;
        for (String line : Files.readAllLines(Path.of("../shared/DOC.md"), StandardCharsets.UTF_8)) {
            String call = "";
            if (line.startsWith("public ") || line.startsWith("    public ")) {
                call = line.trim().replace(";", " {");
            } else if (line.startsWith("`") && line.contains(")")) {
                call = "public " + line.substring(1, line.indexOf('`', 1)) + " {";
            }
            if (!call.isEmpty()) {
                calls++;
                CHECK.due("the program has " + call, true,
                        program.contains(call.replace("java.util.", "")));
            }
        }
        CHECK.due("the class, its face and its promises", 1 + 2 * (1 + FACE.length), calls);
    }
}
