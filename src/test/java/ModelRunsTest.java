import java.util.Random;

/** Long runs of calls, the same at each time, on the program and on the plain model of the document. */
public final class ModelRunsTest {
    private static final int RUNS = 1500;
    private static final int CALLS = 500;

    private final Random random;
    private final SpeaksForTheChair x = new SpeaksForTheChair();
    private final PlainModel model = new PlainModel();
    private int calls = 0;

    private ModelRunsTest(int seed) {
        random = new Random(seed);
    }

    public static void main(String[] args) {
        for (int seed = 0; seed < RUNS; seed++) {
            Checks.promise("1 to 28, run " + seed);
            new ModelRunsTest(seed).run();
        }
        Checks.end();
    }

    private void due(String call, int got, int want) {
        calls++;
        Checks.due("call " + calls + ", " + call, got, want);
    }

    private void run() {
        if (random.nextInt(4) != 0) {
            layText();
        }
        while (calls < CALLS - 210) {
            act();
        }
        if (random.nextBoolean()) {
            layText();
        }
        while (calls < CALLS) {
            act();
        }
    }

    private void layText() {
        due("wipe", x.wipe(), model.wipe());
        String text = text();
        for (int i = 0; i < text.length() && calls < CALLS; i++) {
            due("write " + text.charAt(i), x.write(text.charAt(i)), model.write(text.charAt(i)));
        }
        due("fault of " + text, x.fault(), model.fault());
        due("lay " + text, x.lay(), model.lay());
    }

    private String text() {
        StringBuilder all = new StringBuilder();
        int items = 1 + random.nextInt(19);
        boolean awry = random.nextInt(8) == 0;
        for (int i = 0; i < items; i++) {
            String item = item();
            if (all.length() + item.length() <= 200) {
                all.append(item);
            }
        }
        if (awry) {
            String letters = "pdml0123456789,; x";
            all.setCharAt(random.nextInt(all.length()), letters.charAt(random.nextInt(letters.length())));
        }
        return all.toString();
    }

    private String item() {
        int rooms = 1 + random.nextInt(4);
        switch (random.nextInt(9)) {
            case 0:
                return "m" + random.nextInt(100) + ";";
            case 1:
                return random.nextInt(3) == 0 ? "l" + random.nextInt(4) + ";" : item();
            case 2: case 3: case 4:
                return "p" + random.nextInt(4) + "," + random.nextInt(rooms) + "," + random.nextInt(31) + ";";
            default:
                return "d" + random.nextInt(6) + "," + random.nextInt(rooms) + "," + (8 + random.nextInt(7)) + ","
                    + (1 + random.nextInt(random.nextBoolean() ? 30 : 12)) + ";";
        }
    }

    /** Mostly a number from low to high, now and then one beside them or far from them. */
    private int number(int low, int high) {
        switch (random.nextInt(40)) {
            case 0: return low - 1;
            case 1: return high + 1;
            case 2: return random.nextInt();
            default: return low + random.nextInt(Math.max(1, high - low + 1));
        }
    }

    private int piece() {
        return number(0, model.count(0) - 1);
    }

    private int deed() {
        return number(0, model.count(1) - 1);
    }

    private void act() {
        switch (random.nextInt(12)) {
            case 0: case 1: actOrUndo(); break;
            case 2: look(); break;
            case 3: case 4: hush(); break;
            case 5: case 6: reckon(); break;
            case 7: case 8: see(); break;
            case 9: chance(); break;
            case 10: keepOrBack(); break;
            default: house(); break;
        }
    }

    private void actOrUndo() {
        int p = piece();
        int r = number(0, 3);
        switch (random.nextInt(6)) {
            case 0: due("speak " + p, x.speak(p), model.speak(p)); break;
            case 1: due("buy " + p, x.buy(p), model.buy(p)); break;
            case 2: case 3: due("undo", x.undo(), model.undo()); break;
            default: due("carry " + p + " " + r, x.carry(p, r), model.carry(p, r)); break;
        }
    }

    private void look() {
        int p = piece();
        int d = deed();
        int what = number(0, 5);
        due("piece " + p + " " + what, x.piece(p, what), model.piece(p, what));
        due("deed " + d + " " + what, x.deed(d, what), model.deed(d, what));
    }

    private void hush() {
        int what = number(0, 1);
        int d = deed();
        int w = number(1, 30);
        int person = number(0, 5);
        switch (random.nextInt(3)) {
            case 0: due("hush " + d + " " + what, x.hush(d, what), model.hush(d, what)); break;
            case 1: due("hushAll " + w + " " + what, x.hushAll(w, what), model.hushAll(w, what)); break;
            default: due("hushOne " + person + " " + what, x.hushOne(person, what), model.hushOne(person, what)); break;
        }
    }

    private void reckon() {
        int what = number(0, 1);
        int p = piece();
        int q = piece();
        int t = number(0, 23);
        int w = number(1, 30);
        int k = number(-1, 4);
        int person = number(0, 5);
        switch (random.nextInt(6)) {
            case 0: due("save " + what, x.save(what), model.save(what)); break;
            case 1: due("together " + p + " " + q, x.together(p, q), model.together(p, q)); break;
            case 2: due("cover " + what, x.cover(what), model.cover(what)); break;
            case 3: due("safe " + t + " " + w, x.safe(t, w), model.safe(t, w)); break;
            case 4: due("dealer " + k, x.dealer(k), model.dealer(k)); break;
            default: due("ruin " + person, x.ruin(person), model.ruin(person)); break;
        }
    }

    private void see() {
        int p = piece();
        int d = deed();
        int what = number(0, 1);
        switch (random.nextInt(8)) {
            case 0: due("forget", x.forget(), model.forget()); break;
            case 1: case 2: due("seen " + p + " " + d + " " + what, x.seen(p, d, what), model.seen(p, d, what)); break;
            case 3: seeAndAsk(p, d); break;
            default: due("may " + d + " " + what, x.may(d, what), model.may(d, what)); break;
        }
    }

    private void seeAndAsk(int p, int d) {
        int tells = random.nextInt(2);
        due("seen " + p + " " + d + " " + tells, x.seen(p, d, tells), model.seen(p, d, tells));
        due("may " + d + " 0", x.may(d, 0), model.may(d, 0));
        due("may " + d + " 1", x.may(d, 1), model.may(d, 1));
    }

    private void chance() {
        int d = deed();
        int chance = number(0, 10);
        int z = number(0, 9999);
        int n = number(1, 40);
        int what = number(0, 1);
        if (random.nextBoolean()) {
            // A house of few tellers: the model's search for the lowest terms is slow beyond.
            if (Integer.bitCount(Math.max(0, model.deed(d, 5))) <= 3) {
                due("likely " + d + " " + chance + " " + what, x.likely(d, chance, what),
                    model.likely(d, chance, what));
            }
        } else {
            due("sale " + z + " " + n + " " + what, x.sale(z, n, what), model.sale(z, n, what));
        }
    }

    private void keepOrBack() {
        if (random.nextBoolean()) {
            due("keep", x.keep(), model.keep());
        } else {
            due("back", x.back(), model.back());
        }
    }

    private void house() {
        int what = number(0, 10);
        int letter = number(32, 126);
        switch (random.nextInt(20)) {
            case 0: due("lay", x.lay(), model.lay()); break;
            case 1: due("wipe", x.wipe(), model.wipe()); break;
            case 2: due("write " + letter, x.write(letter), model.write(letter)); break;
            case 3: due("fault", x.fault(), model.fault()); break;
            default: due("count " + what, x.count(what), model.count(what)); break;
        }
    }
}
