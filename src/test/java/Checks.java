/** Counts what is not as due, and ends a test's main with exit code 1 if anything was not. */
final class Checks {
    private static String promise = "";
    private static int asked = 0;
    private static int wrong = 0;

    private Checks() {
    }

    static void promise(String name) {
        promise = name;
    }

    static void due(String call, long got, long want) {
        asked++;
        if (got != want) {
            wrong++;
            System.out.println("promise " + promise + ": " + call + " answered " + got + ", due is " + want);
        }
    }

    static void holds(String what, boolean so) {
        due(what + " (1: so)", so ? 1 : 0, 1);
    }

    static void end() {
        System.out.println(asked + " answers, " + wrong + " not as due");
        if (wrong != 0) {
            System.exit(1);
        }
    }

    /** Wrong numbers for something that is numbered from low to high. */
    static int[] outside(int low, int high) {
        return new int[] {low - 1, high + 1, low - 2, high + 2, -1000, 1000,
            Integer.MIN_VALUE, Integer.MAX_VALUE};
    }

    static void write(SpeaksForTheChair x, String text) {
        for (int i = 0; i < text.length(); i++) {
            x.write(text.charAt(i));
        }
    }

    static SpeaksForTheChair laid(String text) {
        SpeaksForTheChair x = new SpeaksForTheChair();
        write(x, text);
        holds(text + " is laid", x.lay() > 0);
        return x;
    }

    /** All that can be asked without changing anything, in one text. */
    static String picture(SpeaksForTheChair x) {
        StringBuilder all = new StringBuilder();
        for (int what = 0; what <= 10; what++) {
            all.append("c").append(x.count(what));
        }
        for (int p = 0; p < x.count(0); p++) {
            for (int what = 0; what <= 5; what++) {
                all.append("p").append(x.piece(p, what));
            }
        }
        for (int d = 0; d < x.count(1); d++) {
            for (int what = 0; what <= 5; what++) {
                all.append("d").append(x.deed(d, what));
            }
            all.append("m").append(x.may(d, 0)).append("m").append(x.may(d, 1));
        }
        return all.append("f").append(x.fault()).toString();
    }
}
