import java.io.IOException;
import java.lang.reflect.InvocationTargetException;
import java.lang.reflect.Method;
import java.nio.file.Files;
import java.nio.file.Path;
import java.util.ArrayList;
import java.util.Comparator;
import java.util.List;

/** Runs the tests of single sentences, and looks whether the sentences stand in the document. */
final class Sentences {
    private static final Path DOCUMENT = Path.of("../shared/DOC.md");

    private final String document;
    private final boolean[] tested = new boolean[29];
    private int passed = 0;
    private int failed = 0;

    Sentences() throws IOException {
        document = inOneLine(Files.readString(DOCUMENT));
    }

    private static String inOneLine(String text) {
        return text.replaceAll("\\s+", " ");
    }

    void run(Class<?> tests) {
        List<Method> methods = new ArrayList<>(List.of(tests.getDeclaredMethods()));
        methods.removeIf(method -> !method.isAnnotationPresent(Sentence.class));
        methods.sort(Comparator.comparing(Method::getName));
        for (Method method : methods) {
            runOne(tests.getName() + "." + method.getName(), method);
        }
    }

    private void runOne(String name, Method method) {
        Sentence sentence = method.getAnnotation(Sentence.class);
        Checks.promise(name + ", \"" + sentence.words() + "\"");
        int before = Checks.wrong();
        Checks.holds("the sentence stands in the document", document.contains(inOneLine(sentence.words())));
        for (int promise : sentence.of()) {
            tested[promise] = true;
        }
        try {
            method.invoke(null);
        } catch (InvocationTargetException thrown) {
            Checks.holds("threw nothing, but " + thrown.getCause(), false);
        } catch (IllegalAccessException notOpen) {
            Checks.holds("can be run", false);
        }
        if (Checks.wrong() == before) {
            passed++;
        } else {
            failed++;
            System.out.println("FAILED: " + name);
        }
    }

    void end() {
        Checks.promise("1 to 28");
        for (int promise = 1; promise < tested.length; promise++) {
            Checks.holds("a sentence of promise " + promise + " is tested", tested[promise]);
        }
        System.out.println("sentences: " + passed + " held, " + failed + " not");
        Checks.end();
    }
}
