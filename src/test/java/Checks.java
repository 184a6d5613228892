import java.util.Arrays;
import java.util.function.Supplier;

/** Counts what is not as due, and ends a test's main with exit code 1 if anything was not. */
final class Checks {
    private static String promise = "";
    private static int asked = 0;
    private static int wrong = 0;

    private Checks() {
    }

    static void promise(String name) {
        promise = name;
    }

    static void due(String call, long got, long want) {
        asked++;
        if (got != want) {
            wrong++;
            System.out.println("promise " + promise + ": " + call + " answered " + got + ", due is " + want);
        }
    }

    static void holds(String what, boolean so) {
        due(what + " (1: so)", so ? 1 : 0, 1);
    }

    static int wrong() {
        return wrong;
    }

    /** A call that is asked of a house. */
    interface Call {
        int of(SpeaksForTheChair x);
    }

    /** The call answers as wanted and leaves all as in a twin house that was not asked. */
    static void keepsAll(String call, Supplier<SpeaksForTheChair> house, Call asked, int want) {
        SpeaksForTheChair x = house.get();
        due(call, asked.of(x), want);
        String twin = Houses.allOf(house.get());
        holds(call + " changes nothing", twin.equals(Houses.allOf(x)));
    }

    static void end() {
        System.out.println(asked + " answers, " + wrong + " not as due");
        if (wrong != 0) {
            System.exit(1);
        }
    }

    /** Wrong numbers for something that is numbered from low to high. */
    static int[] outside(int low, int high) {
        return new int[] {low - 1, high + 1, low - 2, high + 2, -1000, 1000,
            Integer.MIN_VALUE, Integer.MAX_VALUE};
    }

    static void write(SpeaksForTheChair x, String text) {
        for (int i = 0; i < text.length(); i++) {
            x.write(text.charAt(i));
        }
    }

    static SpeaksForTheChair laid(String text) {
        SpeaksForTheChair x = new SpeaksForTheChair();
        write(x, text);
        holds(text + " is laid", x.lay() > 0);
        return x;
    }

    /** How it stands, in one text, by so few calls that an object's 512 suffice for a dozen such. */
    static String picture(SpeaksForTheChair x) {
        int[] counts = Houses.counts(x);
        StringBuilder all = new StringBuilder(Arrays.toString(counts));
        for (int p = 0; p < counts[0]; p++) {
            all.append("p").append(x.piece(p, 1)).append(x.piece(p, 3));
        }
        for (int d = 0; d < counts[1]; d++) {
            all.append("d").append(x.deed(d, 4));
        }
        return all.append("f").append(x.fault()).toString();
    }
}
