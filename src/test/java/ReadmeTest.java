import java.io.IOException;
import java.net.URL;
import java.net.URLClassLoader;
import java.nio.file.Files;
import java.nio.file.Path;
import java.util.ArrayList;
import java.util.List;
import java.util.regex.Matcher;
import java.util.regex.Pattern;
import javax.tools.JavaCompiler;
import javax.tools.ToolProvider;

/** The examples of README.md are compiled as they stand there, and their calls answer what is printed behind them. */
public final class ReadmeTest {
    private static final Pattern EXAMPLE = Pattern.compile("(?s)```java\n(.*?)```");
    private static final Pattern CALL = Pattern.compile("(?:int (\\w+) = )?(link\\.\\w+\\(.*\\));\\s*// (-?\\d+).*");

    public static void main(String[] args) throws Exception {
        Checks checks = new Checks();
        Matcher example = EXAMPLE.matcher(Files.readString(Path.of("README.md")));
        int examples = 0;
        while (example.find()) {
            examples++;
            run(checks, "README" + examples, example.group(1));
        }
        checks.holds("README.md has examples", examples > 0);
        checks.end("ReadmeTest");
    }

    private static void run(Checks checks, String name, String example) throws Exception {
        StringBuilder body = new StringBuilder();
        List<String> calls = new ArrayList<>();
        List<String> variables = new ArrayList<>();
        List<Long> due = new ArrayList<>();
        for (String line : example.split("\n")) {
            Matcher call = CALL.matcher(line);
            if (!call.matches()) {
                checks.holds(name + ": this test can read the answer of " + line, !line.contains("//"));
                body.append(line).append('\n');
                continue;
            }
            String variable = call.group(1) == null ? "answer" + calls.size() : call.group(1);
            body.append("int " + variable + " = " + call.group(2) + ";\n");
            calls.add(call.group(2));
            variables.add(variable);
            due.add(Long.valueOf(call.group(3)));
        }
        checks.holds(name + " has calls with answers", !calls.isEmpty());
        body.append("return new long[] {" + String.join(", ", variables) + "};\n");
        long[] got = answers(name, body.toString());
        for (int i = 0; i < got.length; i++) {
            checks.due(name + ": " + calls.get(i), got[i], due.get(i));
        }
    }

    private static long[] answers(String name, String body) throws Exception {
        Path place = Files.createTempDirectory("readme");
        try {
            Path source = place.resolve(name + ".java");
            Files.writeString(source,
                    "public final class " + name + " {\npublic static long[] answers() {\n" + body + "}\n}\n");
            compile(source, place);
            try (URLClassLoader loader = new URLClassLoader(new URL[] {place.toUri().toURL()})) {
                return (long[]) loader.loadClass(name).getMethod("answers").invoke(null);
            }
        } finally {
            remove(place);
        }
    }

    private static void compile(Path source, Path place) {
        JavaCompiler compiler = ToolProvider.getSystemJavaCompiler();
        int end = compiler.run(null, null, null, "--release", "17", "-cp", System.getProperty("java.class.path"),
                "-d", place.toString(), source.toString());
        if (end != 0) {
            throw new IllegalStateException("an example of README.md does not compile");
        }
    }

    private static void remove(Path place) throws IOException {
        for (String file : place.toFile().list()) {
            Files.delete(place.resolve(file));
        }
        Files.delete(place);
    }
}
