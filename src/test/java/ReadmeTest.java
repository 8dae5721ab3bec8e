import java.io.IOException;
import java.net.URL;
import java.net.URLClassLoader;
import java.nio.file.Files;
import java.nio.file.Path;
import java.util.ArrayList;
import java.util.List;
import java.util.regex.Matcher;
import java.util.regex.Pattern;
import javax.tools.ToolProvider;

/** Plays the calls of README.md's examples: each answer is the one that stands behind the call. */
public final class ReadmeTest {
    private static final Pattern EXAMPLE = Pattern.compile("```java\n(.*?)```", Pattern.DOTALL);
    private static final Pattern CALL = Pattern.compile("(room\\.\\w+\\(.*\\)); +// (-?\\d+)(:.*)?");
    private static final Pattern ROW = Pattern.compile("^\\| (`.*?`) \\|", Pattern.MULTILINE);

    private static final List<String> calls = new ArrayList<>();
    private static final List<Integer> dues = new ArrayList<>();

    /** The examples as a class that keeps the answer of each call. */
    private static String source(String readme) {
        StringBuilder text = new StringBuilder("public final class ReadmeCalls {\n");
        text.append("  public static void play(java.util.List<Integer> answers) {\n");
        Matcher example = EXAMPLE.matcher(readme);
        while (example.find()) {
            text.append("    {\n");
            for (String line : example.group(1).split("\n")) text.append("      ").append(asked(line)).append('\n');
            text.append("    }\n");
        }
        return text.append("  }\n}\n").toString();
    }

    private static String asked(String line) {
        Matcher call = CALL.matcher(line);
        if (call.matches()) {
            calls.add(call.group(1));
            dues.add(Integer.parseInt(call.group(2)));
            return "answers.add(" + call.group(1) + ");";
        }
        boolean other = line.isEmpty() || line.startsWith("HandsAndWays room = ");
        Check.due("README: " + line + " is a call with its answer", other ? 1 : 0, 1);
        return line;
    }

    private static void play(String source) throws Exception {
        Path out = Files.createTempDirectory("readme");
        Path file = out.resolve("ReadmeCalls.java");
        try {
            Files.writeString(file, source);
            int failed = ToolProvider.getSystemJavaCompiler().run(null, null, null,
                "-cp", System.getProperty("java.class.path"), "-d", out.toString(), file.toString());
            Check.due("README's examples compile", failed, 0);
            if (failed != 0) return;
            List<Integer> answers = new ArrayList<>();
            try (URLClassLoader loader = new URLClassLoader(new URL[] {out.toUri().toURL()})) {
                loader.loadClass("ReadmeCalls").getMethod("play", List.class).invoke(null, answers);
            }
            for (int i = 0; i < answers.size(); i++) Check.due("README: " + calls.get(i), answers.get(i), dues.get(i));
        } finally {
            delete(out);
        }
    }

    private static void delete(Path folder) throws IOException {
        try (var files = Files.list(folder)) {
            for (Path file : files.toList()) Files.delete(file);
        }
        Files.delete(folder);
    }

    /** Each call of the face stands in the table of calls. */
    private static void allCallsAreTold(String readme) {
        StringBuilder rows = new StringBuilder();
        Matcher row = ROW.matcher(readme);
        while (row.find()) rows.append(row.group(1));
        for (var m : HandsAndWays.class.getMethods()) {
            if (m.getDeclaringClass() != HandsAndWays.class) continue;
            Pattern told = Pattern.compile("`" + m.getName() + "\\(([^)]*)\\)`");
            Matcher found = told.matcher(rows);
            boolean is = found.find();
            Check.due("README tells " + m.getName(), is ? 1 : 0, 1);
            if (!is) continue;
            String numbers = found.group(1);
            int told0 = numbers.isEmpty() ? 0 : numbers.split(",").length;
            Check.due("README: numbers of " + m.getName(), told0, m.getParameterCount());
        }
    }

    public static void main(String[] args) throws Exception {
        String readme = Files.readString(Path.of("README.md"));
        allCallsAreTold(readme);
        play(source(readme));
        Check.end("ReadmeTest");
    }
}
