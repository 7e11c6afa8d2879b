import java.io.IOException;
import java.nio.file.Files;
import java.nio.file.Path;
import java.util.Arrays;
import java.util.List;
import java.util.Set;
import java.util.TreeSet;
import java.util.regex.Matcher;
import java.util.regex.Pattern;
import java.util.stream.Collectors;
import javax.tools.ToolProvider;

/** The example in README.md is run: each call of it answers what the comment behind it says. */
public final class ReadmeTest {
    private static final String MADE = "GameArbiter arbiter = new GameArbiter();";
    /** A call, and behind it either "throws" with a name or the answer as Java writes it. */
    private static final Pattern CALL =
            Pattern.compile("(arbiter\\.(\\w+)\\(.*?\\)); +// (?:throws (\\w+)|(\\S+))(?: .*)?");

    /** The path of README.md is the third argument. */
    public static void main(String[] args) throws IOException, ReflectiveOperationException {
        List<String> example = Texts.javaBlock(Path.of(args[2]));
        List<String> others = example.stream().filter(line -> !CALL.matcher(line).matches()).toList();
        Probe.same("lines that are no call with its answer", List.of(MADE), others);
        Probe.same("methods of the face that the example calls", methodsOfTheFace(), methodsCalled(example));
        run(example);
        Probe.end();
    }

    private static Set<String> methodsOfTheFace() {
        return Arrays.stream(GameArbiter.class.getMethods()).filter(m -> m.getDeclaringClass() == GameArbiter.class)
                .map(m -> m.getName()).collect(Collectors.toCollection(TreeSet::new));
    }

    private static Set<String> methodsCalled(List<String> example) {
        return example.stream().map(CALL::matcher).filter(Matcher::matches).map(call -> call.group(2))
                .collect(Collectors.toCollection(TreeSet::new));
    }

    /** The class stands where this one does, so that it sees the helpers of the tests. */
    private static void run(List<String> example) throws IOException, ReflectiveOperationException {
        String classes = System.getProperty("java.class.path");
        Path file = Path.of(classes, "ReadmeExample.java");
        Files.writeString(file, source(example));
        int failed = ToolProvider.getSystemJavaCompiler()
                .run(null, null, null, "-cp", classes, "-d", classes, file.toString());
        Probe.same("the example compiles", 0, failed);
        if (failed == 0) {
            Class.forName("ReadmeExample").getMethod("run").invoke(null);
        }
    }

    private static String source(List<String> example) {
        StringBuilder text = new StringBuilder("public final class ReadmeExample {\n    public static void run() {\n");
        for (String line : example) {
            text.append("        ").append(checked(line)).append('\n');
        }
        return text.append("    }\n}\n").toString();
    }

    private static String checked(String line) {
        Matcher call = CALL.matcher(line);
        if (!call.matches()) {
            return line;
        }
        String due = call.group(3) == null ? call.group(4) : "\"throws." + call.group(3) + "\"";
        return "Probe.same(\"README.md: " + call.group(1) + "\", " + due
                + ", Probe.answer(() -> " + call.group(1) + "));";
    }
}
