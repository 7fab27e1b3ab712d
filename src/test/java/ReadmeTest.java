import java.io.File;
import java.io.IOException;
import java.lang.reflect.Method;
import java.net.URL;
import java.net.URLClassLoader;
import java.nio.file.Files;
import java.nio.file.Path;
import java.util.ArrayList;
import java.util.List;
import java.util.TreeSet;
import java.util.regex.Matcher;
import java.util.regex.Pattern;
import java.util.spi.ToolProvider;

/**
 * The example of README.md, compiled and run as it stands there: each call answers what the comment
 * behind it says, "// = answer, ..." or "// throws Exception, ...", and every call of the face is shown.
 */
public final class ReadmeTest {
    private static final Check CHECK = new Check();
    private static final Pattern CALL = Pattern.compile(
        "(int \\w+ = )?(p\\.(\\w+)\\(.*\\)); +// (= [-\\w]+|throws \\w+)(?:, .*)?");

    private final List<String> shown = new ArrayList<>();
    private final List<String> due = new ArrayList<>();
    private final TreeSet<String> names = new TreeSet<>();
    private final StringBuilder program = new StringBuilder();

    public static void main(String[] args) throws IOException, ReflectiveOperationException {
        new ReadmeTest().run();
        CHECK.finish();
    }

    private void run() throws IOException, ReflectiveOperationException {
        program.append("public class Readme { public static void run(java.util.List<String> answers) {\n");
        for (String line : example(Files.readAllLines(Path.of("README.md")))) {
            translate(line);
        }
        program.append("} }\n");
        CHECK.isTrue("README.md shows every call: " + names,
            names.equals(new TreeSet<>(Calls.methods(BoxPacker.class).keySet())));
        List<String> answers = answers();
        CHECK.same("README.md, answers", answers.size(), due.size());
        for (int i = 0; i < Math.min(answers.size(), due.size()); i++) {
            if (!answers.get(i).equals(due.get(i))) {
                CHECK.report("README.md, " + shown.get(i) + " answered " + answers.get(i) + ", it says " + due.get(i));
            }
        }
    }

    private static List<String> example(List<String> lines) {
        int first = lines.indexOf("```java") + 1;
        int end = first + lines.subList(first, lines.size()).indexOf("```");
        return lines.subList(first, end);
    }

    private void translate(String line) {
        Matcher call = CALL.matcher(line);
        if (call.matches()) {
            shown.add(call.group(2));
            names.add(call.group(3));
            due.add(call.group(4));
            translate(call.group(1), call.group(2), call.group(4).startsWith("throws"));
        } else if (line.isBlank() || line.startsWith("//") || line.equals("BoxPacker p = new BoxPacker();")) {
            program.append(line).append('\n');
        } else {
            CHECK.report("README.md, a line that is not understood: " + line);
        }
    }

    private void translate(String variable, String call, boolean refused) {
        if (refused) {
            program.append("try { answers.add(\"= \" + ").append(call).append("); } catch (RuntimeException e) ")
                .append("{ answers.add(\"throws \" + e.getClass().getSimpleName()); }\n");
        } else if (variable != null) {
            String name = variable.split(" ")[1];
            program.append(variable).append(call).append("; answers.add(\"= \" + ").append(name).append(");\n");
        } else {
            program.append("answers.add(\"= \" + ").append(call).append(");\n");
        }
    }

    private List<String> answers() throws IOException, ReflectiveOperationException {
        Path folder = Files.createTempDirectory("readme");
        Path source = Files.writeString(folder.resolve("Readme.java"), program);
        List<String> answers = new ArrayList<>();
        int failed = ToolProvider.findFirst("javac").orElseThrow().run(System.out, System.out,
            "-d", folder.toString(), "-cp", System.getProperty("java.class.path"), source.toString());
        CHECK.same("README.md compiles: javac", failed, 0);
        if (failed == 0) {
            try (URLClassLoader loader = new URLClassLoader(new URL[] {folder.toUri().toURL()})) {
                Method run = loader.loadClass("Readme").getMethod("run", List.class);
                run.invoke(null, answers);
            }
        }
        File[] written = folder.toFile().listFiles();
        for (File file : written == null ? new File[0] : written) {
            Files.delete(file.toPath());
        }
        Files.delete(folder);
        return answers;
    }
}
