import java.io.IOException;
import java.lang.reflect.Method;
import java.lang.reflect.Modifier;
import java.net.URL;
import java.net.URLClassLoader;
import java.nio.file.Files;
import java.nio.file.Path;
import java.util.ArrayList;
import java.util.List;
import java.util.regex.Matcher;
import java.util.regex.Pattern;
import javax.tools.ToolProvider;

/** What README.md tells of the class and of its tests, as they stand now; run where README.md is. */
public final class ReadmeTest extends Checks {
    private static final Path README = Path.of("README.md");
    private static final Path TESTS = Path.of("src/test/java");
    /** A call, and behind it the answer that README.md tells. */
    private static final Pattern CALL = Pattern.compile("(road\\.\\w+\\(.*\\)); +// (-?\\d+|true|false)\\b.*");

    public static void main(String[] args) {
        runAll(ReadmeTest.class);
    }

    /** The example is compiled as it stands, each call with an answer behind it asked for that answer. */
    static void exampleAnswersAsTold() throws Exception {
        StringBuilder program = new StringBuilder("public class Example {\n"
                + "public static void go(java.util.List<String> got) {\n");
        List<String> calls = new ArrayList<>();
        List<String> due = new ArrayList<>();
        for (String line : example()) {
            Matcher call = CALL.matcher(line);
            if (call.matches()) {
                calls.add(call.group(1));
                due.add(call.group(2));
                program.append("got.add(String.valueOf(").append(call.group(1)).append("));\n");
            } else {
                program.append(line).append('\n');
            }
        }
        List<String> got = answers(program.append("}\n}\n").toString());
        yes("the example has calls", !calls.isEmpty());
        for (int i = 0; i < calls.size(); i++) {
            same(calls.get(i), i < got.size() ? got.get(i) : "nothing", due.get(i));
        }
    }

    static void exampleHasEveryMethodOfTheFace() throws IOException {
        String example = String.join("\n", example());
        for (Method method : SectionTemplates.class.getDeclaredMethods()) {
            if (Modifier.isPublic(method.getModifiers())) {
                yes("the example calls " + method.getName(), example.contains("road." + method.getName() + "("));
            }
        }
    }

    static void everyTestIsTold() throws IOException {
        String readme = Files.readString(README);
        List<Path> files;
        try (var found = Files.list(TESTS)) {
            files = found.toList();
        }
        for (Path file : files) {
            String name = file.getFileName().toString().replace(".java", "");
            yes(name + " is told", readme.contains("`" + name + "`"));
        }
    }

    /** And none is told that is not there any more. */
    static void everyFileThatIsToldIsThere() throws IOException {
        Matcher name = Pattern.compile("`(\\w+Test)`").matcher(Files.readString(README));
        while (name.find()) {
            yes(name.group(1) + " is there", Files.exists(TESTS.resolve(name.group(1) + ".java")));
        }
        yes(".ci/run is there", Files.exists(Path.of(".ci/run")));
    }

    private static List<String> example() throws IOException {
        List<String> lines = new ArrayList<>();
        boolean inside = false;
        for (String line : Files.readAllLines(README)) {
            if (line.startsWith("```")) {
                inside = line.equals("```java");
            } else if (inside) {
                lines.add(line);
            }
        }
        return lines;
    }

    private static List<String> answers(String program) throws Exception {
        Path room = Files.createTempDirectory("readme");
        Path source = room.resolve("Example.java");
        List<String> got = new ArrayList<>();
        try {
            Files.writeString(source, program);
            int failed = ToolProvider.getSystemJavaCompiler().run(null, null, System.out,
                    "-cp", System.getProperty("java.class.path"), "-d", room.toString(), source.toString());
            is("the example's compiler", failed, 0);
            try (URLClassLoader loader = new URLClassLoader(new URL[] {room.toUri().toURL()})) {
                loader.loadClass("Example").getMethod("go", List.class).invoke(null, got);
            }
        } finally {
            Files.deleteIfExists(room.resolve("Example.class"));
            Files.deleteIfExists(source);
            Files.deleteIfExists(room);
        }
        return got;
    }
}
