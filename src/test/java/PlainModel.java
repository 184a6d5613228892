import java.util.ArrayDeque;
import java.util.ArrayList;
import java.util.Arrays;
import java.util.Comparator;
import java.util.Deque;
import java.util.List;
import java.util.TreeSet;
import java.util.function.IntPredicate;
import java.util.regex.Matcher;
import java.util.regex.Pattern;

/**
 * The document once more, word by word and without regard to speed: sets are
 * searched where the program reckons, and how it stands is copied whole.
 */
final class PlainModel {
    static final int BAD = -1, NO = -2, FULL = -3, NONE = -4;
    private static final Pattern ITEM = Pattern.compile("([a-z])([0-9]{1,2}(?:,[0-9]{1,2})*);");

    private record Deed(int number, int person, int room, int hour, int weight) {
    }

    private static final class Piece {
        final int kind;
        final int price;
        int room;
        int how;

        Piece(int kind, int room, int price, int how) {
            this.kind = kind;
            this.room = room;
            this.price = price;
            this.how = how;
        }

        Piece copy() {
            return new Piece(kind, room, price, how);
        }
    }

    private static final class State {
        final List<Piece> pieces = new ArrayList<>();
        final TreeSet<Integer> out = new TreeSet<>();
        int coins = 50;

        State copy() {
            State other = new State();
            pieces.forEach(piece -> other.pieces.add(piece.copy()));
            other.out.addAll(out);
            other.coins = coins;
            return other;
        }
    }

    private String text = "";
    private State state = new State();
    private List<Deed> deeds = new ArrayList<>();
    private TreeSet<Integer> law = new TreeSet<>();
    private final List<int[]> sightings = new ArrayList<>();
    private final Deque<State> past = new ArrayDeque<>();
    private final Deque<State> kept = new ArrayDeque<>();

    PlainModel() {
        text = "p0,0,20;p1,0,9;p2,1,12;p2,0,7;p3,1,3;p0,2,30;p1,2,5;d0,0,9,4;d1,0,22,15;d0,1,3,8;"
            + "d2,1,14,20;d1,0,13,6;d3,2,7,11;m40;l0;";
        lay();
        text = "";
    }

    int write(int letter) {
        if (letter < 32 || letter > 126) {
            return BAD;
        }
        if (text.length() == 200) {
            return FULL;
        }
        text += (char) letter;
        return text.length();
    }

    int wipe() {
        int before = text.length();
        text = "";
        return before;
    }

    private static boolean between(int low, int number, int high) {
        return low <= number && number <= high;
    }

    /** Reads the text into the three given; the fault or NONE. */
    private int read(State into, List<Deed> deedsInto, TreeSet<Integer> lawInto) {
        int start = 0;
        while (start < text.length()) {
            Matcher item = ITEM.matcher(text).region(start, text.length());
            if (!item.lookingAt()) {
                return start;
            }
            int[] n = Arrays.stream(item.group(2).split(",")).mapToInt(Integer::parseInt).toArray();
            String shape = item.group(1) + n.length;
            boolean so = switch (shape) {
                case "p3" -> between(0, n[0], 3) && between(0, n[1], 3) && between(0, n[2], 60)
                    && into.pieces.size() < 8 && into.pieces.add(new Piece(n[0], n[1], n[2], 0));
                case "d4" -> between(0, n[0], 5) && between(0, n[1], 3) && between(0, n[2], 23)
                    && between(1, n[3], 30) && deedsInto.size() < 9
                    && deedsInto.add(new Deed(deedsInto.size(), n[0], n[1], n[2], n[3]));
                case "m1" -> between(0, into.coins = n[0], 99);
                case "l1" -> between(0, n[0], 3) && (lawInto.add(n[0]) || true);
                default -> false;
            };
            if (!so) {
                return start;
            }
            start = item.end();
        }
        return NONE;
    }

    int fault() {
        return read(new State(), new ArrayList<>(), new TreeSet<>());
    }

    int lay() {
        State newState = new State();
        List<Deed> newDeeds = new ArrayList<>();
        TreeSet<Integer> newLaw = new TreeSet<>();
        if (read(newState, newDeeds, newLaw) != NONE || newState.pieces.isEmpty()) {
            return NO;
        }
        state = newState;
        deeds = newDeeds;
        law = newLaw;
        sightings.clear();
        past.clear();
        kept.clear();
        return state.pieces.size();
    }

    private boolean isPiece(int p) {
        return between(0, p, state.pieces.size() - 1);
    }

    private boolean isDeed(int d) {
        return between(0, d, deeds.size() - 1);
    }

    /** What a piece tells, of any list of deeds. */
    private static TreeSet<Integer> tells(Piece piece, List<Deed> all) {
        List<Deed> there = new ArrayList<>(all);
        there.removeIf(deed -> deed.room() != piece.room);
        if (piece.kind == 1) {
            there.removeIf(deed -> deed.hour() < 12);
        } else if (piece.kind == 2) {
            there.sort(Comparator.comparingInt(Deed::hour).thenComparingInt(Deed::number));
            there = there.subList(Math.max(0, there.size() - 2), there.size());
        } else if (piece.kind == 3) {
            there.removeIf(deed -> deed.hour() >= 12 || deed.weight() > 10);
        }
        TreeSet<Integer> numbers = new TreeSet<>();
        there.forEach(deed -> numbers.add(deed.number()));
        return numbers;
    }

    private TreeSet<Integer> tells(int p) {
        return tells(state.pieces.get(p), deeds);
    }

    private static int bits(Iterable<Integer> numbers) {
        int all = 0;
        for (int number : numbers) {
            all |= 1 << number;
        }
        return all;
    }

    private boolean isLoose(State in, int p) {
        return in.pieces.get(p).how == 0 && !law.contains(in.pieces.get(p).kind);
    }

    private TreeSet<Integer> loose() {
        TreeSet<Integer> all = new TreeSet<>();
        for (int p = 0; p < state.pieces.size(); p++) {
            if (isLoose(state, p)) {
                all.add(p);
            }
        }
        return all;
    }

    private int weight(Iterable<Integer> numbers) {
        int sum = 0;
        for (int d : numbers) {
            sum += deeds.get(d).weight();
        }
        return sum;
    }

    int piece(int p, int what) {
        if (!isPiece(p) || !between(0, what, 5)) {
            return BAD;
        }
        Piece piece = state.pieces.get(p);
        return new int[] {piece.kind, piece.room, piece.price, piece.how, bits(tells(p)),
            isLoose(state, p) ? 1 : 0}[what];
    }

    int deed(int d, int what) {
        if (!isDeed(d) || !between(0, what, 5)) {
            return BAD;
        }
        Deed deed = deeds.get(d);
        TreeSet<Integer> tellers = loose();
        tellers.removeIf(p -> !tells(p).contains(d));
        return new int[] {deed.person(), deed.room(), deed.hour(), deed.weight(), state.out.contains(d) ? 1 : 0,
            bits(tellers)}[what];
    }

    private void remember() {
        past.addLast(state.copy());
        if (past.size() > 8) {
            past.removeFirst();
        }
    }

    private int speakIn(State in, int p) {
        int before = in.out.size();
        in.out.addAll(tells(in.pieces.get(p), deeds));
        in.pieces.get(p).how = 2;
        return in.out.size() - before;
    }

    private int buyIn(State in, int p) {
        in.pieces.get(p).how = 1;
        in.coins -= in.pieces.get(p).price;
        return in.coins;
    }

    private static boolean affords(State in, int p) {
        return in.pieces.get(p).how == 0 && in.pieces.get(p).price <= in.coins;
    }

    int speak(int p) {
        if (!isPiece(p)) {
            return BAD;
        }
        if (!isLoose(state, p)) {
            return NO;
        }
        remember();
        return speakIn(state, p);
    }

    int buy(int p) {
        if (!isPiece(p)) {
            return BAD;
        }
        if (!affords(state, p)) {
            return NO;
        }
        remember();
        return buyIn(state, p);
    }

    int carry(int p, int r) {
        if (!isPiece(p) || !between(0, r, 3)) {
            return BAD;
        }
        int before = state.pieces.get(p).room;
        if (state.pieces.get(p).how == 2 || before == r) {
            return NO;
        }
        remember();
        state.pieces.get(p).room = r;
        return before;
    }

    int undo() {
        if (past.isEmpty()) {
            return NO;
        }
        state = past.removeLast();
        return past.size();
    }

    private int price(int set) {
        int sum = 0;
        for (int p = 0; p < state.pieces.size(); p++) {
            sum += (set >> p & 1) * state.pieces.get(p).price;
        }
        return sum;
    }

    private boolean isOfLoose(int set) {
        return (set & ~bits(loose())) == 0;
    }

    private int hushWhere(IntPredicate asked, int what) {
        int best = -1;
        for (int set = 0; set < 256; set++) {
            if (!isOfLoose(set)) {
                continue;
            }
            boolean told = false;
            for (int p : loose()) {
                for (int d : tells(p)) {
                    told |= (set >> p & 1) == 0 && asked.test(d);
                }
            }
            if (!told && (best < 0 || price(set) < price(best))) {
                best = set;
            }
        }
        return what == 0 ? price(best) : best;
    }

    int hush(int d, int what) {
        if (!isDeed(d) || !between(0, what, 1)) {
            return BAD;
        }
        return state.out.contains(d) ? NONE : hushWhere(e -> e == d, what);
    }

    int hushAll(int w, int what) {
        if (!between(1, w, 30) || !between(0, what, 1)) {
            return BAD;
        }
        return hushWhere(d -> deeds.get(d).weight() >= w && !state.out.contains(d), what);
    }

    int hushOne(int person, int what) {
        if (!between(0, person, 5) || !between(0, what, 1)) {
            return BAD;
        }
        return hushWhere(d -> deeds.get(d).person() == person && !state.out.contains(d), what);
    }

    int save(int what) {
        if (!between(0, what, 1)) {
            return BAD;
        }
        int best = -1;
        int least = Integer.MAX_VALUE;
        for (int set = 0; set < 256; set++) {
            if (!isOfLoose(set) || price(set) > state.coins) {
                continue;
            }
            TreeSet<Integer> told = new TreeSet<>();
            for (int p : loose()) {
                if ((set >> p & 1) == 0) {
                    told.addAll(tells(p));
                }
            }
            told.removeAll(state.out);
            if (weight(told) < least) {
                least = weight(told);
                best = set;
            }
        }
        return what == 0 ? least : best;
    }

    int together(int p, int q) {
        if (!isPiece(p) || !isPiece(q) || p == q) {
            return BAD;
        }
        TreeSet<Integer> both = tells(p);
        both.retainAll(tells(q));
        return bits(both);
    }

    int cover(int what) {
        if (!between(0, what, 1)) {
            return BAD;
        }
        TreeSet<Integer> all = new TreeSet<>();
        loose().forEach(p -> all.addAll(tells(p)));
        for (int size = 0; size <= 8; size++) {
            for (int set = 0; set < 256; set++) {
                if (Integer.bitCount(set) != size || !isOfLoose(set)) {
                    continue;
                }
                TreeSet<Integer> told = new TreeSet<>();
                for (int p : loose()) {
                    if ((set >> p & 1) == 1) {
                        told.addAll(tells(p));
                    }
                }
                if (told.equals(all)) {
                    return what == 0 ? size : set;
                }
            }
        }
        throw new IllegalStateException("all loose pieces tell what any loose piece tells");
    }

    int safe(int t, int w) {
        if (!between(0, t, 23) || !between(1, w, 30)) {
            return BAD;
        }
        TreeSet<Integer> rooms = new TreeSet<>();
        for (int room = 0; room < 4; room++) {
            List<Deed> more = new ArrayList<>(deeds);
            more.add(new Deed(deeds.size(), 0, room, t, w));
            boolean told = false;
            for (int p : loose()) {
                told |= tells(state.pieces.get(p), more).contains(deeds.size());
            }
            if (!told) {
                rooms.add(room);
            }
        }
        return bits(rooms);
    }

    int dealer(int k) {
        if (k < -1) {
            return BAD;
        }
        TreeSet<Integer> out = new TreeSet<>(state.out);
        List<Integer> order = new ArrayList<>();
        while (true) {
            int best = -1;
            int most = 0;
            for (int p : loose()) {
                TreeSet<Integer> fresh = tells(p);
                fresh.removeAll(out);
                if (!order.contains(p) && weight(fresh) > most) {
                    most = weight(fresh);
                    best = p;
                }
            }
            if (best < 0) {
                break;
            }
            order.add(best);
            out.addAll(tells(best));
        }
        if (k == -1) {
            return weight(out) - weight(state.out);
        }
        return k < order.size() ? order.get(k) : NONE;
    }

    int ruin(int person) {
        if (!between(0, person, 5)) {
            return BAD;
        }
        TreeSet<Integer> his = new TreeSet<>(state.out);
        his.removeIf(d -> deeds.get(d).person() != person);
        return weight(his);
    }

    int seen(int p, int d, int tells) {
        if (!isPiece(p) || !isDeed(d) || !between(0, tells, 1)) {
            return BAD;
        }
        if (sightings.size() == 6) {
            return FULL;
        }
        sightings.add(new int[] {p, d, tells});
        return sightings.size();
    }

    int forget() {
        int before = sightings.size();
        sightings.clear();
        return before;
    }

    int may(int d, int what) {
        if (!isDeed(d) || !between(0, what, 1)) {
            return BAD;
        }
        TreeSet<Integer> those = new TreeSet<>();
        for (int i = 0; i < (what == 0 ? 4 : 24); i++) {
            Deed is = deeds.get(d);
            List<Deed> other = new ArrayList<>(deeds);
            other.set(d, what == 0 ? new Deed(d, is.person(), i, is.hour(), is.weight())
                : new Deed(d, is.person(), is.room(), i, is.weight()));
            boolean so = true;
            for (int[] one : sightings) {
                if (one[1] == d) {
                    so &= tells(state.pieces.get(one[0]), other).contains(d) == (one[2] == 1);
                }
            }
            if (so) {
                those.add(i);
            }
        }
        return bits(those);
    }

    int likely(int d, int x, int part) {
        if (!isDeed(d) || !between(0, x, 10) || !between(0, part, 1)) {
            return BAD;
        }
        long below = 1;
        long not = 1;
        for (int p : loose()) {
            if (tells(p).contains(d)) {
                below *= 10;
                not *= 10 - x;
            }
        }
        long above = state.out.contains(d) ? below : below - not;
        for (long by = below; by > 1; by--) {
            if (above % by == 0 && below % by == 0) {
                above /= by;
                below /= by;
                by = below + 1;
            }
        }
        return (int) (part == 0 ? above : below);
    }

    int sale(int z, int n, int what) {
        if (!between(0, z, 9999) || !between(1, n, 40) || !between(0, what, 1)) {
            return BAD;
        }
        State at = state.copy();
        for (int time = 0; time < n; time++) {
            long x = 7919L * z + 6151L * time + 1;
            int draw = (int) (x * x % 65521 / 2);
            int p = draw % at.pieces.size();
            int act = draw / 8 % 3;
            if (act == 0 && isLoose(at, p)) {
                speakIn(at, p);
            } else if (act == 1 && affords(at, p)) {
                buyIn(at, p);
            } else if (act == 2 && at.pieces.get(p).how != 2) {
                at.pieces.get(p).room = draw / 32 % 4;
            }
        }
        return what == 0 ? bits(at.out) : at.coins;
    }

    int keep() {
        if (kept.size() == 2) {
            return FULL;
        }
        kept.addLast(state.copy());
        return kept.size();
    }

    int back() {
        if (kept.isEmpty()) {
            return NO;
        }
        state = kept.removeLast();
        past.clear();
        return kept.size();
    }

    int count(int what) {
        int bought = 0;
        int spoken = 0;
        for (Piece piece : state.pieces) {
            bought += piece.how == 1 ? 1 : 0;
            spoken += piece.how == 2 ? 1 : 0;
        }
        int[] all = {state.pieces.size(), deeds.size(), state.coins, loose().size(), bought, spoken,
            state.out.size(), sightings.size(), past.size(), kept.size(), text.length()};
        return between(0, what, 10) ? all[what] : BAD;
    }
}
