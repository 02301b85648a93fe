import java.io.IOException;
import java.net.URL;
import java.net.URLClassLoader;
import java.nio.file.Files;
import java.nio.file.Path;
import java.util.ArrayList;
import java.util.List;
import java.util.regex.Matcher;
import java.util.regex.Pattern;
import javax.tools.ToolProvider;

/** The run of calls in README.md is compiled and played: each answer is the number that its comment begins with. */
public final class ReadmeTests {
    private static final Path OUT = Path.of("build/readme");
    private static final Pattern ANSWERED = Pattern.compile("(?:int )?(\\w+) = .*;\\s*// (-?\\d+): .*");
    private static final Due due = new Due("ReadmeTests");

    public static void main(String[] args) throws IOException, ReflectiveOperationException {
        String text = Files.readString(Path.of("README.md"));
        int begin = text.indexOf("```java\n") + 8;
        List<String> lines = text.substring(begin, text.indexOf("```", begin)).lines().toList();
        compile(program(lines));
        List<String> answers = played();
        int next = 0;
        for (String line : lines) {
            Matcher answered = ANSWERED.matcher(line);
            if (answered.matches()) {
                due.same(line, answers.get(next++), answered.group(2));
            }
        }
        due.same("the run has answers", "" + (next >= 5), "true");
        due.close();
    }

    /** The lines, with each answer noted behind the line that asks for it. */
    private static String program(List<String> lines) {
        List<String> all = new ArrayList<>();
        all.add("public final class ReadmeRun {");
        all.add("public static void play(java.util.List<String> answers) {");
        for (String line : lines) {
            Matcher answered = ANSWERED.matcher(line);
            all.add(line);
            all.add(answered.matches() ? "answers.add(\"\" + " + answered.group(1) + ");" : "");
        }
        all.add("}");
        all.add("}");
        return String.join("\n", all);
    }

    private static void compile(String program) throws IOException {
        Files.createDirectories(OUT);
        Path file = OUT.resolve("ReadmeRun.java");
        Files.writeString(file, program);
        int code = ToolProvider.getSystemJavaCompiler().run(null, null, null, "-proc:none", "-d", OUT.toString(),
            "-cp", System.getProperty("java.class.path"), file.toString());
        due.same("the compiler's exit code", "" + code, "0");
    }

    private static List<String> played() throws IOException, ReflectiveOperationException {
        List<String> answers = new ArrayList<>();
        try (URLClassLoader loader = new URLClassLoader(new URL[] {OUT.toUri().toURL()})) {
            loader.loadClass("ReadmeRun").getMethod("play", List.class).invoke(null, answers);
        }
        return answers;
    }
}
