import java.net.URL;
import java.net.URLClassLoader;
import java.nio.file.Files;
import java.nio.file.Path;
import java.util.ArrayList;
import java.util.List;
import java.util.regex.Matcher;
import java.util.regex.Pattern;
import javax.tools.ToolProvider;

/**
 * Each call of README.md's example answers the number behind its //. It is run in the project's folder.
 * The example is compiled as it stands there, but that each answer is put into a list.
 */
public final class ReadmeTest {
    private static final Pattern CALL =
        Pattern.compile("(int \\w+ = )?(judge\\.\\w+\\(.*?\\)); *// (-?[0-9]+)(:.*)?");

    private final Check check = new Check();
    private final List<String> calls = new ArrayList<>();
    private final List<Integer> wants = new ArrayList<>();

    public static void main(String[] args) throws Exception {
        ReadmeTest test = new ReadmeTest();
        String readme = Files.readString(Path.of("README.md"));
        test.runExample(readme);
        test.tellText(readme);
        test.namesAllCalls(readme);
        test.check.finish("ReadmeTest");
    }

    private void runExample(String readme) throws Exception {
        int begin = readme.indexOf("```java\n") + "```java\n".length();
        String body = rewritten(readme.substring(begin, readme.indexOf("```", begin)));
        check.holds("the example has calls: " + calls.size(), calls.size() >= 10);
        Path folder = Files.createTempDirectory("readme");
        try {
            List<?> answers = compiledAndRun(folder, body);
            check.due("how many answers", answers.size(), wants.size());
            for (int i = 0; i < answers.size() && i < wants.size(); i++) {
                check.due(calls.get(i), (Integer) answers.get(i), wants.get(i));
            }
        } finally {
            for (String file : new String[] {"Example.java", "Example.class", ""}) {
                Files.deleteIfExists(folder.resolve(file));
            }
        }
    }

    private String rewritten(String example) {
        StringBuilder body = new StringBuilder();
        for (String line : example.split("\n")) {
            Matcher call = CALL.matcher(line);
            if (call.matches()) {
                String declared = call.group(1) == null ? "" : call.group(1);
                body.append(declared).append("kept(").append(call.group(2)).append(");\n");
                calls.add(call.group(2));
                wants.add(Integer.valueOf(call.group(3)));
            } else {
                check.holds("an answer is told by: " + line, !line.contains("judge."));
                body.append(line).append('\n');
            }
        }
        return body.toString();
    }

    private List<?> compiledAndRun(Path folder, String body) throws Exception {
        Path source = folder.resolve("Example.java");
        Files.writeString(source, "public final class Example {\n"
            + "static final java.util.List<Integer> answers = new java.util.ArrayList<>();\n"
            + "static int kept(int answer) { answers.add(answer); return answer; }\n"
            + "public static java.util.List<Integer> run() {\n" + body + "return answers;\n}\n}\n");
        String classes = System.getProperty("java.class.path");
        int failed = ToolProvider.getSystemJavaCompiler().run(null, null, null, "-cp", classes, source.toString());
        check.due("the compiler's exit code", failed, 0);
        if (failed != 0) {
            return List.of();
        }
        try (URLClassLoader loader = new URLClassLoader(new URL[] {folder.toUri().toURL()})) {
            return (List<?>) loader.loadClass("Example").getMethod("run").invoke(null);
        }
    }

    /** Whether the text of three SHAPES says what is told of it: each NODE has what one of them wants. */
    private void tellText(String readme) {
        int begin = readme.indexOf("    A = ");
        check.holds("the text is there", begin >= 0);
        ShapeJudge x = check.judge(readme.substring(begin + 4, readme.indexOf('\n', begin)), 4);
        check.due("three SHAPES", x.count(2), 3);
        check.due("NODES without EDGES FIT none", x.count(4), 0);
        x.edge(0, 0, 0);
        x.edge(0, 1, 1);
        x.edge(0, 5, 0);
        x.edge(1, 2, 0);
        x.edge(1, 3, 3);
        x.edge(2, 4, 0);
        x.edge(2, 4, 1);
        check.due("A", x.all(0), 1);
        check.due("B", x.all(1), 2);
        check.due("C", x.all(2), 4);
        x.value(3, true, 6);
        check.due("B without a VALUE up to 5", x.all(1), 0);
        x.cut(1, 3, 3);
        check.due("B with one EDGE", x.all(1), 2);
        x.edge(1, 5, 0);
        check.due("B with another EDGE", x.all(1), 0);
    }

    private void namesAllCalls(String readme) {
        for (java.lang.reflect.Method method : ShapeJudge.class.getDeclaredMethods()) {
            boolean isPublic = java.lang.reflect.Modifier.isPublic(method.getModifiers());
            boolean isNamed = readme.contains("`" + method.getName() + "`") || readme.contains("`" + method.getName() + "(");
            check.holds("README.md names " + method.getName(), !isPublic || isNamed);
        }
    }
}
