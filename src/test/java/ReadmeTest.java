import java.lang.reflect.Method;
import java.net.URL;
import java.net.URLClassLoader;
import java.nio.file.Files;
import java.nio.file.Path;
import java.util.ArrayList;
import java.util.List;
import java.util.regex.Matcher;
import java.util.regex.Pattern;
import java.util.stream.Stream;
import javax.tools.JavaCompiler;
import javax.tools.ToolProvider;

/** The lines of code of README.md, compiled and run as they stand there, with the answers given behind them. */
public final class ReadmeTest {
    private static final Due due = new Due("ReadmeTest");
    private static final Path README = Path.of("README.md");
    private static final String NEW_OBJECT = "RegexSimplifier x = new RegexSimplifier();";

    /** A call, its answer behind the slashes, and perhaps the name of the constant that the answer is. */
    private static final Pattern CALL = Pattern.compile("(x\\.(\\w+)\\(.*\\);) +// (-?\\d+)\\b(?:, ([A-Z_]+)\\b)?.*");

    public static void main(String[] args) throws Exception {
        List<String> lines = codeLines(Files.readAllLines(README));
        due.holds("README.md begins with a new object", !lines.isEmpty() && lines.get(0).equals(NEW_OBJECT));
        List<Matcher> calls = new ArrayList<>();
        for (String line : lines.subList(Math.min(1, lines.size()), lines.size())) {
            Matcher call = CALL.matcher(line);
            due.holds("a call with its answer: " + line, call.matches());
            if (call.matches()) {
                calls.add(call);
            }
        }
        checkAnswers(calls);
        checkConstants(calls);
        everyMethodIsShown(calls);
        due.end();
    }

    private static List<String> codeLines(List<String> lines) {
        List<String> code = new ArrayList<>();
        boolean inside = false;
        for (String line : lines) {
            if (line.startsWith("```")) {
                due.holds("code is Java: " + line, inside ? line.equals("```") : line.equals("```java"));
                inside = !inside;
            } else if (inside && !line.isBlank()) {
                code.add(line.strip());
            }
        }
        due.holds("the last lines of code have an end", !inside);
        return code;
    }

    private static void checkAnswers(List<Matcher> calls) throws Exception {
        StringBuilder source = new StringBuilder("public final class ReadmeLines {\n");
        source.append("public static long[] answers() {\n").append(NEW_OBJECT).append("\n");
        source.append("long[] answers = new long[").append(calls.size()).append("];\n");
        for (int index = 0; index < calls.size(); index++) {
            source.append("answers[").append(index).append("] = ").append(calls.get(index).group(1)).append("\n");
        }
        long[] answers = answersOf(source.append("return answers;\n}\n}\n").toString());
        for (int index = 0; index < answers.length; index++) {
            due.is(calls.get(index).group(1), answers[index], Long.parseLong(calls.get(index).group(3)));
        }
    }

    private static long[] answersOf(String source) throws Exception {
        Path folder = Files.createTempDirectory("readme");
        Path file = Files.writeString(folder.resolve("ReadmeLines.java"), source);
        JavaCompiler compiler = ToolProvider.getSystemJavaCompiler();
        String classPath = System.getProperty("java.class.path");
        boolean compiled = compiler != null
            && compiler.run(null, null, null, "-cp", classPath, "-d", folder.toString(), file.toString()) == 0;
        due.holds("the lines of README.md compile", compiled);
        long[] answers = new long[0];
        if (compiled) {
            try (URLClassLoader loader = new URLClassLoader(new URL[] {folder.toUri().toURL()})) {
                answers = (long[]) loader.loadClass("ReadmeLines").getMethod("answers").invoke(null);
            }
        }
        removeAll(folder);
        return answers;
    }

    private static void removeAll(Path folder) throws Exception {
        try (Stream<Path> files = Files.list(folder)) {
            for (Path file : files.toList()) {
                Files.delete(file);
            }
        }
        Files.delete(folder);
    }

    private static void checkConstants(List<Matcher> calls) throws Exception {
        for (Matcher call : calls) {
            long answer = Long.parseLong(call.group(3));
            due.holds("a negative answer has its name: " + call.group(), (answer < 0) == (call.group(4) != null));
            if (call.group(4) != null) {
                due.is(call.group(4), RegexSimplifier.class.getField(call.group(4)).getInt(null), answer);
            }
        }
    }

    private static void everyMethodIsShown(List<Matcher> calls) {
        for (Method method : RegexSimplifier.class.getMethods()) {
            boolean shown = calls.stream().anyMatch(call -> call.group(2).equals(method.getName()));
            due.holds("README.md shows " + method.getName(), shown || method.getDeclaringClass() == Object.class);
        }
    }
}
