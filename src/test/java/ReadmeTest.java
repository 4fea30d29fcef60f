import java.io.IOException;
import java.lang.reflect.Method;
import java.lang.reflect.Modifier;
import java.net.URL;
import java.net.URLClassLoader;
import java.nio.file.Files;
import java.nio.file.Path;
import java.util.ArrayList;
import java.util.List;
import java.util.regex.Matcher;
import java.util.regex.Pattern;
import javax.tools.JavaCompiler;
import javax.tools.ToolProvider;

/**
 * The examples of README.md: its Java blocks are compiled as they stand, and every call has to answer or throw what the
 * comment behind it says.
 */
public final class ReadmeTest {
    private static final Check CHECK = new Check();
    private static final Pattern CALL = Pattern.compile("(x\\.(\\w+)\\(.*\\));(?:\\s*// (.*))?");
    private static final Pattern SAID = Pattern.compile("(=>|throws) ([^:]+)(?:: .*)?");
    private static final String NEW_OBJECT = "HyphenPatterns x = new HyphenPatterns();";

    private final StringBuilder source = new StringBuilder();
    private final List<String> calls = new ArrayList<>();
    private final List<String> due = new ArrayList<>();

    public static void main(String[] args) throws IOException, ReflectiveOperationException {
        ReadmeTest test = new ReadmeTest();
        test.read(Files.readAllLines(Path.of("README.md")));
        test.checkAllIsShown();
        test.compare(test.run());
        CHECK.end();
    }

    private void read(List<String> lines) {
        source.append("public final class ReadmeCalls {\n  public static void run(java.util.List<String> answers) {\n");
        boolean inBlock = false;
        for (String line : lines) {
            if (line.equals("```java")) {
                inBlock = true;
                source.append("{\n");
            } else if (inBlock && line.equals("```")) {
                inBlock = false;
                source.append("}\n");
            } else if (inBlock) {
                readCall(line);
            }
        }
        source.append("  }\n}\n");
    }

    private void readCall(String line) {
        Matcher call = CALL.matcher(line);
        if (!call.matches()) {
            CHECK.same("a line of README.md", line, NEW_OBJECT);
            source.append(line).append('\n');
            return;
        }
        Matcher said = SAID.matcher(call.group(3) == null ? "" : call.group(3));
        if (!said.matches()) {
            CHECK.same(line + " says its answer", isVoid(call.group(2)), true);
            source.append(call.group(1)).append(";\n");
        } else if (said.group(1).equals("throws")) {
            expect(line, "throws " + said.group(2));
            source.append("try { ").append(call.group(1)).append("; answers.add(\"no throw\"); }\n");
            source.append("catch (RuntimeException e) { answers.add(\"throws \" + e.getClass().getSimpleName()); }\n");
        } else {
            expect(line, said.group(2));
            source.append("answers.add(String.valueOf(").append(call.group(1)).append("));\n");
        }
    }

    private void expect(String line, String answer) {
        calls.add(line);
        due.add(answer);
    }

    private static boolean isVoid(String name) {
        return name.equals("letters") || name.equals("least");
    }

    private void checkAllIsShown() {
        for (Method method : HyphenPatterns.class.getDeclaredMethods()) {
            if (Modifier.isPublic(method.getModifiers())) {
                CHECK.same(method.getName() + " is shown", source.indexOf("x." + method.getName() + "(") >= 0, true);
            }
        }
    }

    private List<String> run() throws IOException, ReflectiveOperationException {
        List<String> answers = new ArrayList<>();
        Path folder = Files.createTempDirectory("readme");
        Path file = folder.resolve("ReadmeCalls.java");
        Path compiled = folder.resolve("ReadmeCalls.class");
        try {
            Files.writeString(file, source);
            JavaCompiler javac = ToolProvider.getSystemJavaCompiler();
            int wrong = javac.run(null, null, null, "-cp", System.getProperty("java.class.path"), file.toString());
            CHECK.same("README.md compiles", wrong, 0);
            if (wrong == 0) {
                runCompiled(folder, answers);
            }
        } finally {
            Files.deleteIfExists(file);
            Files.deleteIfExists(compiled);
            Files.deleteIfExists(folder);
        }
        return answers;
    }

    private static void runCompiled(Path folder, List<String> answers) throws IOException, ReflectiveOperationException {
        try (URLClassLoader loader = new URLClassLoader(new URL[] {folder.toUri().toURL()})) {
            loader.loadClass("ReadmeCalls").getMethod("run", List.class).invoke(null, answers);
        }
    }

    private void compare(List<String> answers) {
        CHECK.same("calls with an answer", answers.size(), due.size());
        for (int i = 0; i < due.size() && i < answers.size(); i++) {
            CHECK.same(calls.get(i), answers.get(i), due.get(i));
        }
    }
}
