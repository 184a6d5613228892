import java.io.IOException;
import java.lang.reflect.Constructor;
import java.lang.reflect.Field;
import java.lang.reflect.Method;
import java.lang.reflect.Modifier;
import java.nio.file.Files;
import java.nio.file.Path;
import java.util.Set;
import java.util.TreeSet;
import java.util.regex.Pattern;

/** The document's public face, and such rules of LANGUAGE.md as can be seen from outside. */
public final class FaceTest {
    private static final String SOURCE = "src/main/java/SpeaksForTheChair.java";
    private static final Set<String> METHODS = Set.of("write1", "wipe0", "fault0", "lay0", "piece2", "deed2",
        "speak1", "buy1", "carry2", "undo0", "hush2", "hushAll2", "hushOne2", "save1", "together2", "cover1", "safe2",
        "dealer1", "ruin1", "seen3", "forget0", "may2", "likely3", "sale3", "keep0", "back0", "count1");

    private FaceTest() {
    }

    public static void main(String[] args) throws IOException {
        constants();
        members();
        insideClasses();
        words();
        Checks.end();
    }

    private static void constants() {
        Checks.promise("the face, constants");
        Checks.due("BAD", SpeaksForTheChair.BAD, -1);
        Checks.due("NO", SpeaksForTheChair.NO, -2);
        Checks.due("FULL", SpeaksForTheChair.FULL, -3);
        Checks.due("NONE", SpeaksForTheChair.NONE, -4);
        int open = 0;
        for (Field field : SpeaksForTheChair.class.getDeclaredFields()) {
            int how = field.getModifiers();
            open += Modifier.isPrivate(how) ? 0 : 1;
            Checks.holds(field.getName() + ": static ones are final", !Modifier.isStatic(how) || Modifier.isFinal(how));
        }
        Checks.due("constants that are public", open, 4);
    }

    private static void members() {
        Checks.promise("the face, methods");
        int type = SpeaksForTheChair.class.getModifiers();
        Checks.holds("public and final", Modifier.isPublic(type) && Modifier.isFinal(type));
        Constructor<?>[] constructors = SpeaksForTheChair.class.getDeclaredConstructors();
        Checks.due("constructors", constructors.length, 1);
        Checks.due("its parameters", constructors[0].getParameterCount(), 0);
        Set<String> open = new TreeSet<>();
        for (Method method : SpeaksForTheChair.class.getDeclaredMethods()) {
            int how = method.getModifiers();
            if (Modifier.isPublic(how)) {
                open.add(method.getName() + method.getParameterCount());
                Checks.holds(method + " answers an int, of an object",
                    method.getReturnType() == int.class && !Modifier.isStatic(how));
            } else {
                Checks.holds(method + " is private", Modifier.isPrivate(how));
                Checks.holds(method + " has a name of its own", METHODS.stream()
                    .noneMatch(name -> name.replaceAll("[0-9]", "").equals(method.getName())));
            }
        }
        Checks.holds("the public methods: " + open, open.equals(METHODS));
    }

    private static void insideClasses() {
        Checks.promise("the face, classes inside");
        Class<?>[] inside = SpeaksForTheChair.class.getDeclaredClasses();
        Checks.holds("some twelve classes", inside.length <= 12);
        for (Class<?> one : inside) {
            int how = one.getModifiers();
            Checks.holds(one + " is static and not public", Modifier.isStatic(how) && !Modifier.isPublic(how));
        }
    }

    private static void words() throws IOException {
        Checks.promise("LANGUAGE.md");
        String source = Files.readString(Path.of(SOURCE)).replaceAll("(?m)//.*$", "")
            .replaceAll("(?s)/\\*.*?\\*/", "").replaceAll("\"[^\"]*\"", "\"\"");
        for (String word : new String[] {"throws?", "try", "catch", "finally", "synchronized", "assert", "import",
            "package", "protected", "equals", "hashCode", "toString", "System\\.(?!arraycopy)\\w+", "\\w+Exact",
            "Random", "Thread", "float", "double"}) {
            Checks.holds("no " + word, !Pattern.compile("\\b" + word + "\\b").matcher(source).find());
        }
        Checks.holds("no lambda or method reference", !source.contains("->") && !source.contains("::"));
        Checks.holds("no sum with a text", !Pattern.compile("\"\\s*\\+|\\+\\s*\"").matcher(source).find());
    }
}
