import java.io.IOException;
import java.lang.reflect.Method;
import java.lang.reflect.Modifier;
import java.net.URL;
import java.net.URLClassLoader;
import java.nio.file.Files;
import java.nio.file.Path;
import java.util.ArrayList;
import java.util.List;
import java.util.regex.Matcher;
import java.util.regex.Pattern;
import java.util.stream.Stream;
import javax.tools.JavaCompiler;
import javax.tools.ToolProvider;

/** What README.md shows of answers is so, and it shows each call, each constant and each test. */
public final class ReadmeTest {
    private static final Pattern SHOWN = Pattern.compile("(house\\.(\\w+)\\(.*\\)); +// (-?[0-9]+)(:.*)?");
    private static final String SAMPLE = "ReadmeSample";

    private final String page;
    private final StringBuilder body = new StringBuilder();
    private final List<String> calls = new ArrayList<>();
    private final List<String> names = new ArrayList<>();
    private final List<Integer> shown = new ArrayList<>();

    private ReadmeTest(String page) {
        this.page = page;
    }

    public static void main(String[] args) throws IOException, ReflectiveOperationException {
        ReadmeTest test = new ReadmeTest(Files.readString(Path.of("README.md")));
        Checks.promise("README.md");
        test.readSample();
        test.answersAreSo();
        test.eachCallIsShown();
        test.constantsAreTold();
        test.testsAreTold();
        Checks.end();
    }

    private void readSample() {
        Matcher block = Pattern.compile("(?s)```java\n(.*?)```").matcher(page);
        while (block.find()) {
            block.group(1).lines().forEach(this::readLine);
        }
    }

    private void readLine(String line) {
        Matcher one = SHOWN.matcher(line);
        if (one.matches()) {
            calls.add(one.group(1));
            names.add(one.group(2));
            shown.add(Integer.parseInt(one.group(3)));
            body.append("all[").append(calls.size() - 1).append("] = ").append(one.group(1)).append(";\n");
        } else {
            Checks.holds("an answer is a number behind a call, in: " + line, line.lastIndexOf("//") <= 0);
            body.append(line).append('\n');
        }
    }

    private void answersAreSo() throws IOException, ReflectiveOperationException {
        Path folder = Files.createTempDirectory("readme");
        try {
            int[] answers = answers(folder);
            for (int i = 0; i < answers.length; i++) {
                Checks.due(calls.get(i), answers[i], shown.get(i));
            }
        } finally {
            try (Stream<Path> files = Files.list(folder)) {
                for (Path file : files.toList()) {
                    Files.delete(file);
                }
            }
            Files.delete(folder);
        }
    }

    /** The sample is compiled, too: so it can be copied from the page as it stands. */
    private int[] answers(Path folder) throws IOException, ReflectiveOperationException {
        Path source = folder.resolve(SAMPLE + ".java");
        Files.writeString(source, "public final class " + SAMPLE + " {\npublic static int[] all() {\nint[] all = new int["
            + calls.size() + "];\n" + body + "return all;\n}\n}\n");
        JavaCompiler compiler = ToolProvider.getSystemJavaCompiler();
        int refused = compiler.run(null, null, null, "-cp", System.getProperty("java.class.path"),
            "-d", folder.toString(), source.toString());
        Checks.due("compiling the sample", refused, 0);
        if (refused != 0) {
            return new int[0];
        }
        try (URLClassLoader loader = new URLClassLoader(new URL[] {folder.toUri().toURL()})) {
            return (int[]) loader.loadClass(SAMPLE).getMethod("all").invoke(null);
        }
    }

    private void eachCallIsShown() {
        for (Method method : SpeaksForTheChair.class.getDeclaredMethods()) {
            if (Modifier.isPublic(method.getModifiers())) {
                Checks.holds(method.getName() + " is shown with its answer", names.contains(method.getName()));
            }
        }
    }

    private void constantsAreTold() {
        int[] values = {SpeaksForTheChair.BAD, SpeaksForTheChair.NO, SpeaksForTheChair.FULL, SpeaksForTheChair.NONE};
        String[] constants = {"BAD", "NO", "FULL", "NONE"};
        for (int i = 0; i < constants.length; i++) {
            Checks.holds(constants[i] + " is told", page.contains("`" + constants[i] + "` (" + values[i]));
        }
    }

    private void testsAreTold() throws IOException {
        Checks.holds("how to run the tests is told", page.contains("\n    .ci/run\n"));
        try (Stream<Path> files = Files.list(Path.of("src/test/java"))) {
            for (Path file : files.toList()) {
                String name = file.getFileName().toString().replace(".java", "");
                Checks.holds(name + " is told", !name.endsWith("Test") || page.contains("`" + name + "`"));
            }
        }
    }
}
