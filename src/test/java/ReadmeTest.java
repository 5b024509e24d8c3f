import java.io.IOException;
import java.net.URI;
import java.nio.charset.StandardCharsets;
import java.nio.file.Files;
import java.nio.file.Path;
import java.util.ArrayList;
import java.util.HashMap;
import java.util.List;
import java.util.Map;
import java.util.TreeSet;
import java.util.regex.Matcher;
import java.util.regex.Pattern;
import javax.tools.JavaCompiler;
import javax.tools.JavaFileObject;
import javax.tools.SimpleJavaFileObject;
import javax.tools.ToolProvider;

/** The calls that README.md shows: they compile, each is answered as README.md says, none is missing. */
public final class ReadmeTest {
    private static final Check CHECK = new Check("ReadmeTest");
    private static final String MADE = "FoundRegister register = new FoundRegister();";
    private static final Pattern CALL =
            Pattern.compile("(?:int (\\w+) = )?register\\.(\\w+)\\(([^)]*)\\); *// (.*)");
    private static final Pattern ANSWER =
            Pattern.compile("(-?\\d+|true|false|throws (\\w+))(?:[:;, ].*)?");

    private final Map<String, Integer> names = new HashMap<>();
    private final TreeSet<String> shown = new TreeSet<>();
    private FoundRegister register;

    public static void main(String[] args) throws IOException {
        ReadmeTest test = new ReadmeTest();
        for (List<String> block : javaBlocks()) {
            test.run(block);
            test.compiles(block);
        }
        CHECK.due("the calls that are shown", FaceTest.names(), test.shown);
        CHECK.end();
    }

    private static List<List<String>> javaBlocks() throws IOException {
        List<List<String>> blocks = new ArrayList<>();
        boolean inside = false;
        for (String line : Files.readAllLines(Path.of("README.md"), StandardCharsets.UTF_8)) {
            if (line.startsWith("```")) {
                inside = line.equals("```java");
                if (inside) {
                    blocks.add(new ArrayList<>());
                }
            } else if (inside) {
                blocks.get(blocks.size() - 1).add(line.trim());
            }
        }
        return blocks;
    }

    private void run(List<String> block) {
        names.clear();
        register = null;
        for (String line : block) {
            if (line.equals(MADE)) {
                register = new FoundRegister();
            } else if (!line.isEmpty() && !line.startsWith("//")) {
                runCall(line);
            }
        }
    }

    private void runCall(String line) {
        Matcher call = CALL.matcher(line);
        if (register == null || !call.matches()) {
            CHECK.due(line, "a call and its answer", "something else");
            return;
        }
        String name = call.group(2);
        shown.add(name);
        Object got = Calls.answer(register, name, parameters(call.group(3)));
        if (call.group(1) != null && got instanceof Integer) {
            names.put(call.group(1), (Integer) got);
        }
        CHECK.due(line, answer(call.group(4)), got instanceof Class<?> e ? e.getSimpleName() : "" + got);
    }

    private int[] parameters(String written) {
        String[] parts = written.isBlank() ? new String[0] : written.split(",");
        int[] parameters = new int[parts.length];
        for (int place = 0; place < parts.length; place++) {
            String part = parts[place].trim();
            parameters[place] = names.containsKey(part) ? names.get(part) : Integer.parseInt(part);
        }
        return parameters;
    }

    private static String answer(String comment) {
        Matcher answer = ANSWER.matcher(comment);
        if (!answer.matches()) {
            return "no answer is shown";
        }
        return answer.group(2) != null ? answer.group(2) : answer.group(1);
    }

    private void compiles(List<String> block) throws IOException {
        String text = "class Shown { static void run() {\n" + String.join("\n", block) + "\n} }\n";
        JavaFileObject source = new SimpleJavaFileObject(URI.create("string:///Shown.java"),
                JavaFileObject.Kind.SOURCE) {
            @Override
            public CharSequence getCharContent(boolean ignoreErrors) {
                return text;
            }
        };
        JavaCompiler compiler = ToolProvider.getSystemJavaCompiler();
        Path target = Files.createTempDirectory("shown");
        List<String> options = List.of("--release", "17", "-d", target.toString(),
                "-classpath", System.getProperty("java.class.path"));
        boolean good = compiler.getTask(null, null, null, options, null, List.of(source)).call();
        Files.deleteIfExists(target.resolve("Shown.class"));
        Files.deleteIfExists(target);
        CHECK.due("the calls shown compile", true, good);
    }
}
