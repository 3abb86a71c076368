import java.io.IOException;
import java.net.URL;
import java.net.URLClassLoader;
import java.nio.file.Files;
import java.nio.file.Path;
import java.util.ArrayList;
import java.util.List;
import java.util.function.Supplier;
import java.util.regex.Matcher;
import java.util.regex.Pattern;
import javax.tools.ToolProvider;

/** That the example of README.md answers what stands behind its lines. */
public final class ReadmeTest extends Checks {
    private static final Pattern BLOCK = Pattern.compile("```java\n(.*?)```", Pattern.DOTALL);
    private static final Pattern TOLD = Pattern.compile("(?:int (\\w+) = )?(.*);\\s*// (?:throws )?([^:]*): .*");
    private static final int LEAST_TOLD = 10;

    private ReadmeTest() {
    }

    public static void main(String[] args) throws Exception {
        Matcher block = BLOCK.matcher(Files.readString(Path.of("README.md")));
        same("README.md has an example", true, block.find());
        List<String> lines = new ArrayList<>();
        List<String> due = new ArrayList<>();
        StringBuilder body = new StringBuilder();
        for (String line : block.group(1).split("\n")) {
            Matcher told = TOLD.matcher(line);
            if (told.matches()) {
                lines.add(line);
                due.add(told.group(3));
                String name = told.group(1) == null ? "answer" + lines.size() : told.group(1);
                body.append(asked(name, told.group(2), line.contains("// throws ")));
            } else {
                body.append(line).append('\n');
            }
        }
        same("lines that tell their answer, at least", true, lines.size() >= LEAST_TOLD);
        List<String> got = answers(body.toString());
        for (int i = 0; i < lines.size(); i++) {
            same("README.md, " + lines.get(i), due.get(i), got.get(i));
        }
        end("ReadmeTest");
    }

    private static String asked(String name, String call, boolean isThrowing) {
        if (isThrowing) {
            return "try { " + call + "; got.add(\"nothing\"); }"
                + " catch (RuntimeException e) { got.add(e.getClass().getSimpleName()); }\n";
        }
        return "var " + name + " = " + call + "; got.add(String.valueOf(" + name + "));\n";
    }

    /** Compiles the lines as a method of a class of its own, and asks that. */
    private static List<String> answers(String body) throws Exception {
        Path place = Files.createTempDirectory("readme");
        Path source = place.resolve("Example.java");
        Files.writeString(source, "import java.util.*;\n"
            + "public class Example implements java.util.function.Supplier<List<String>> {\n"
            + "public List<String> get() {\nList<String> got = new ArrayList<>();\n" + body
            + "return got;\n}\n}\n");
        int code = ToolProvider.getSystemJavaCompiler().run(null, null, null, "-d", place.toString(),
            "-cp", System.getProperty("java.class.path"), source.toString());
        same("the example of README.md compiles, exit code", 0, code);
        try (URLClassLoader loader = new URLClassLoader(new URL[] {place.toUri().toURL()})) {
            Object example = loader.loadClass("Example").getDeclaredConstructor().newInstance();
            List<String> got = new ArrayList<>();
            for (Object answer : (List<?>) ((Supplier<?>) example).get()) {
                got.add((String) answer);
            }
            return got;
        } finally {
            clear(place);
        }
    }

    private static void clear(Path place) throws IOException {
        try (var files = Files.list(place)) {
            for (Path file : files.toList()) {
                Files.delete(file);
            }
        }
        Files.delete(place);
    }
}
