/**
 * A family's house told in a text: pieces of furniture that can be made to
 * speak, deeds that they tell, and a purse to buy what must not speak.
 * Sets of pieces and of deeds are bits all through; no call makes an object.
 */
public final class SpeaksForTheChair {
    public static final int BAD = -1, NO = -2, FULL = -3, NONE = -4;

    private static final int MOST_LETTERS = 200, MOST_PIECES = 8, MOST_DEEDS = 9;
    private static final int MOST_UNDONE = 8, MOST_KEPT = 2, MOST_SEEN = 6;
    private static final int KINDS = 4, ROOMS = 4, HOURS = 24, PERSONS = 6;
    private static final int MOST_PRICE = 60, MOST_WEIGHT = 30, COINS_UNTOLD = 50;
    private static final int NOON = 12, CRADLE_WEIGHT = 10, SOFA_DEEDS = 2;
    private static final int TABLE = 0, WARDROBE = 1, SOFA = 2, CRADLE = 3;
    private static final int STILL = 0, BOUGHT = 1, SPOKEN = 2;
    private static final int MOST_SALE_NUMBER = 9999, MOST_SALE_TIMES = 40;
    private static final String FIRST_HOUSE =
        "p0,0,20;p1,0,9;p2,1,12;p2,0,7;p3,1,3;p0,2,30;p1,2,5;d0,0,9,4;d1,0,22,15;d0,1,3,8;d2,1,14,20;d1,0,13,6;d3,2,7,11;m40;l0;";

    private final Page page;
    private House laid;
    // A text is read into the draft, so that one with a fault leaves what is laid alone.
    private House draft;
    private final Standing now;
    // A sale runs on the trial, for nothing changes by it.
    private final Standing trial;
    private final Past past;
    private final Sightings sightings;
    private final long[] kept;
    private int keptCount;
    // What each piece tells, by fillTold: a row made once and used by the dearer calls.
    private final int[] told;

    public SpeaksForTheChair() {
        page = new Page();
        laid = new House();
        draft = new House();
        now = new Standing();
        trial = new Standing();
        past = new Past();
        sightings = new Sightings();
        kept = new long[MOST_KEPT];
        told = new int[MOST_PIECES];
        for (int i = 0; i < FIRST_HOUSE.length(); i++) {
            page.add(FIRST_HOUSE.charAt(i));
        }
        lay();
        page.clear();
    }

    // ---- houses

    public int write(int letter) {
        if (!isWithin(letter, 32, 126)) {
            return BAD;
        }
        return page.add((char) letter) ? page.length : FULL;
    }

    public int wipe() {
        int before = page.length;
        page.clear();
        return before;
    }

    public int fault() {
        return draft.readFrom(page);
    }

    public int lay() {
        if (draft.readFrom(page) != NONE || draft.pieces == 0) {
            return NO;
        }
        House before = laid;
        laid = draft;
        draft = before;
        now.begin(laid.roomsAtFirst, laid.coins);
        past.clear();
        sightings.clear();
        keptCount = 0;
        return laid.pieces;
    }

    public int piece(int p, int what) {
        if (!isPiece(p)) {
            return BAD;
        }
        switch (what) {
            case 0: return laid.kinds[p];
            case 1: return now.roomOf(p);
            case 2: return laid.prices[p];
            case 3: return now.howIs(p);
            case 4: return laid.toldBy(p, now.roomOf(p));
            case 5: return isLoose(now, p) ? 1 : 0;
            default: return BAD;
        }
    }

    public int deed(int d, int what) {
        if (!isDeed(d)) {
            return BAD;
        }
        switch (what) {
            case 0: return laid.persons[d];
            case 1: return laid.places[d];
            case 2: return laid.hours[d];
            case 3: return laid.weights[d];
            case 4: return hasComeOut(d) ? 1 : 0;
            case 5: return looseTellers(1 << d);
            default: return BAD;
        }
    }

    // ---- acts

    public int speak(int p) {
        if (!isPiece(p)) {
            return BAD;
        }
        if (!isLoose(now, p)) {
            return NO;
        }
        past.push(now.packed());
        return now.letSpeak(p, laid.toldBy(p, now.roomOf(p)));
    }

    public int buy(int p) {
        if (!isPiece(p)) {
            return BAD;
        }
        if (!canBeBought(now, p)) {
            return NO;
        }
        past.push(now.packed());
        now.sell(p, laid.prices[p]);
        return now.coins;
    }

    public int carry(int p, int r) {
        if (!isPiece(p) || !isWithin(r, 0, ROOMS - 1)) {
            return BAD;
        }
        int before = now.roomOf(p);
        if (now.howIs(p) == SPOKEN || before == r) {
            return NO;
        }
        past.push(now.packed());
        now.move(p, r);
        return before;
    }

    public int undo() {
        if (past.depth == 0) {
            return NO;
        }
        now.unpack(past.pop());
        return past.depth;
    }

    // ---- silence

    public int hush(int d, int what) {
        if (!isDeed(d) || !isWithin(what, 0, 1)) {
            return BAD;
        }
        if (hasComeOut(d)) {
            return NONE;
        }
        return silence(1 << d, what);
    }

    public int hushAll(int w, int what) {
        if (!isWithin(w, 1, MOST_WEIGHT) || !isWithin(what, 0, 1)) {
            return BAD;
        }
        return silence(laid.deedsAsHeavyAs(w) & ~now.out, what);
    }

    public int hushOne(int person, int what) {
        if (!isPerson(person) || !isWithin(what, 0, 1)) {
            return BAD;
        }
        return silence(laid.deedsOf(person) & ~now.out, what);
    }

    public int save(int what) {
        if (!isWithin(what, 0, 1)) {
            return BAD;
        }
        fillTold();
        int loose = looseOnes();
        int best = 0;
        int least = weightLeft(loose);
        for (int set = 1; set < 1 << laid.pieces; set++) {
            if ((set & ~loose) != 0 || laid.priceOf(set) > now.coins) {
                continue;
            }
            int left = weightLeft(loose & ~set);
            if (left < least) {
                least = left;
                best = set;
            }
        }
        return what == 0 ? least : best;
    }

    public int together(int p, int q) {
        if (!isPiece(p) || !isPiece(q) || p == q) {
            return BAD;
        }
        return laid.toldBy(p, now.roomOf(p)) & laid.toldBy(q, now.roomOf(q));
    }

    public int cover(int what) {
        if (!isWithin(what, 0, 1)) {
            return BAD;
        }
        fillTold();
        int loose = looseOnes();
        int all = toldBySet(loose);
        int best = loose;
        int fewest = MOST_PIECES + 1;
        for (int set = 0; set < 1 << laid.pieces; set++) {
            int size = Integer.bitCount(set);
            if ((set & ~loose) == 0 && size < fewest && toldBySet(set) == all) {
                fewest = size;
                best = set;
            }
        }
        return what == 0 ? Integer.bitCount(best) : best;
    }

    public int safe(int t, int w) {
        if (!isWithin(t, 0, HOURS - 1) || !isWithin(w, 1, MOST_WEIGHT)) {
            return BAD;
        }
        int rooms = (1 << ROOMS) - 1;
        for (int p = 0; p < laid.pieces; p++) {
            int room = now.roomOf(p);
            if (isLoose(now, p) && laid.wouldTell(laid.kinds[p], room, laid.deeds, t, w)) {
                rooms &= ~(1 << room);
            }
        }
        return rooms;
    }

    public int dealer(int k) {
        if (k < -1) {
            return BAD;
        }
        fillTold();
        int loose = looseOnes();
        int out = now.out;
        int sum = 0;
        for (int turn = 0; turn < laid.pieces; turn++) {
            int p = loudest(loose, out);
            if (p < 0) {
                break;
            }
            if (turn == k) {
                return p;
            }
            sum += laid.weightOf(told[p] & ~out);
            // With its deeds out it gains nothing more, so it need not leave the loose ones.
            out |= told[p];
        }
        return k == -1 ? sum : NONE;
    }

    public int ruin(int person) {
        if (!isPerson(person)) {
            return BAD;
        }
        return laid.weightOf(laid.deedsOf(person) & now.out);
    }

    // ---- what was seen

    public int seen(int p, int d, int tells) {
        if (!isPiece(p) || !isDeed(d) || !isWithin(tells, 0, 1)) {
            return BAD;
        }
        return sightings.add(p, d, tells == 1) ? sightings.length : FULL;
    }

    public int forget() {
        int before = sightings.length;
        sightings.clear();
        return before;
    }

    public int may(int d, int what) {
        if (!isDeed(d) || !isWithin(what, 0, 1)) {
            return BAD;
        }
        return what == 0 ? roomsThatMay(d) : hoursThatMay(d);
    }

    // ---- chances, sales

    public int likely(int d, int x, int part) {
        if (!isDeed(d) || !isWithin(x, 0, 10) || !isWithin(part, 0, 1)) {
            return BAD;
        }
        if (hasComeOut(d)) {
            return 1;
        }
        int silent = 1;
        int below = 1;
        int tellers = Integer.bitCount(looseTellers(1 << d));
        for (int i = 0; i < tellers; i++) {
            silent *= 10 - x;
            below *= 10;
        }
        int above = below - silent;
        // Below is a power of ten: only 2 and 5 can be shared, each once a teller at most.
        for (int i = 0; i < tellers; i++) {
            if (above % 2 == 0 && below % 2 == 0) {
                above /= 2;
                below /= 2;
            }
            if (above % 5 == 0 && below % 5 == 0) {
                above /= 5;
                below /= 5;
            }
        }
        return part == 0 ? above : below;
    }

    public int sale(int z, int n, int what) {
        if (!isWithin(z, 0, MOST_SALE_NUMBER) || !isWithin(n, 1, MOST_SALE_TIMES)
                || !isWithin(what, 0, 1)) {
            return BAD;
        }
        trial.unpack(now.packed());
        for (int time = 0; time < n; time++) {
            dealOnce(drawOf(z, time));
        }
        return what == 0 ? trial.out : trial.coins;
    }

    // ---- kept

    public int keep() {
        if (keptCount >= kept.length) {
            return FULL;
        }
        kept[keptCount] = now.packed();
        keptCount++;
        return keptCount;
    }

    public int back() {
        if (keptCount < 1) {
            return NO;
        }
        keptCount--;
        now.unpack(kept[keptCount]);
        past.clear();
        return keptCount;
    }

    public int count(int what) {
        switch (what) {
            case 0: return laid.pieces;
            case 1: return laid.deeds;
            case 2: return now.coins;
            case 3: return Integer.bitCount(looseOnes());
            case 4: return Integer.bitCount(now.bought);
            case 5: return Integer.bitCount(now.spoken);
            case 6: return Integer.bitCount(now.out);
            case 7: return sightings.length;
            case 8: return past.depth;
            case 9: return keptCount;
            case 10: return page.length;
            default: return BAD;
        }
    }

    // ---- numbers that are told

    private static boolean isWithin(int number, int low, int high) {
        return number >= low && number <= high;
    }

    private static boolean isPerson(int person) {
        return isWithin(person, 0, PERSONS - 1);
    }

    private boolean isPiece(int p) {
        return isWithin(p, 0, laid.pieces - 1);
    }

    private boolean isDeed(int d) {
        return isWithin(d, 0, laid.deeds - 1);
    }

    // ---- how it stands

    private boolean hasComeOut(int d) {
        return (now.out >> d & 1) == 1;
    }

    private boolean isLoose(Standing standing, int p) {
        return standing.howIs(p) == STILL && !laid.forbids(laid.kinds[p]);
    }

    private boolean canBeBought(Standing standing, int p) {
        return standing.howIs(p) == STILL && laid.prices[p] <= standing.coins;
    }

    private int looseOnes() {
        int loose = 0;
        for (int p = 0; p < laid.pieces; p++) {
            if (isLoose(now, p)) {
                loose |= 1 << p;
            }
        }
        return loose;
    }

    private int looseTellers(int deeds) {
        int tellers = 0;
        for (int p = 0; p < laid.pieces; p++) {
            if (isLoose(now, p) && (laid.toldBy(p, now.roomOf(p)) & deeds) != 0) {
                tellers |= 1 << p;
            }
        }
        return tellers;
    }

    private void fillTold() {
        for (int p = 0; p < laid.pieces; p++) {
            told[p] = laid.toldBy(p, now.roomOf(p));
        }
    }

    private int toldBySet(int set) {
        int deeds = 0;
        for (int p = 0; p < laid.pieces; p++) {
            if ((set >> p & 1) == 1) {
                deeds |= told[p];
            }
        }
        return deeds;
    }

    private int weightLeft(int tellers) {
        return laid.weightOf(toldBySet(tellers) & ~now.out);
    }

    // Every set that silences the deeds holds all their loose tellers; one that
    // holds more costs no less and is higher as bits. So no set need be searched.
    private int silence(int deeds, int what) {
        int set = looseTellers(deeds);
        return what == 0 ? laid.priceOf(set) : set;
    }

    private int loudest(int loose, int out) {
        int loudest = -1;
        int most = 0;
        for (int p = 0; p < laid.pieces; p++) {
            int gain = laid.weightOf(told[p] & ~out);
            if ((loose >> p & 1) == 1 && gain > most) {
                most = gain;
                loudest = p;
            }
        }
        return loudest;
    }

    // ---- what may have been

    private int roomsThatMay(int d) {
        int rooms = 0;
        for (int r = 0; r < ROOMS; r++) {
            if (agreesWithSeen(d, r, laid.hours[d])) {
                rooms |= 1 << r;
            }
        }
        return rooms;
    }

    private int hoursThatMay(int d) {
        int hours = 0;
        for (int t = 0; t < HOURS; t++) {
            if (agreesWithSeen(d, laid.places[d], t)) {
                hours |= 1 << t;
            }
        }
        return hours;
    }

    private boolean agreesWithSeen(int d, int place, int hour) {
        for (int i = 0; i < sightings.length; i++) {
            int p = sightings.pieces[i];
            if (sightings.deeds[i] == d && isPiece(p)) {
                boolean tells = now.roomOf(p) == place
                    && laid.wouldTell(laid.kinds[p], place, d, hour, laid.weights[d]);
                if (tells != sightings.tells[i]) {
                    return false;
                }
            }
        }
        return true;
    }

    // ---- chances, sales, within

    private static int drawOf(int z, int time) {
        long x = 7919L * z + 6151L * time + 1;
        return (int) (x * x % 65521 / 2);
    }

    private void dealOnce(int draw) {
        if (laid.pieces < 1) {
            return;
        }
        int p = draw % laid.pieces;
        int act = draw / 8 % 3;
        if (act == 0 && isLoose(trial, p)) {
            trial.letSpeak(p, laid.toldBy(p, trial.roomOf(p)));
        }
        if (act == 1 && canBeBought(trial, p)) {
            trial.sell(p, laid.prices[p]);
        }
        if (act == 2 && trial.howIs(p) != SPOKEN) {
            trial.move(p, draw / 32 % ROOMS);
        }
    }

    /** THE TEXT. */
    private static final class Page {
        final char[] letters = new char[MOST_LETTERS];
        int length;

        boolean add(char letter) {
            if (length >= letters.length) {
                return false;
            }
            letters[length] = letter;
            length++;
            return true;
        }

        void clear() {
            length = 0;
        }

        // Behind the text stands 0, which no item holds: a reader needs no look at the length.
        int letterAt(int place) {
            return place >= 0 && place < length ? letters[place] : 0;
        }
    }

    /** What a text tells: this stays as it is from one lay to the next. */
    private static final class House {
        private static final int AWRY = -1;

        int pieces;
        final int[] kinds = new int[MOST_PIECES];
        final int[] prices = new int[MOST_PIECES];
        int roomsAtFirst;
        int deeds;
        final int[] persons = new int[MOST_DEEDS];
        final int[] places = new int[MOST_DEEDS];
        final int[] hours = new int[MOST_DEEDS];
        final int[] weights = new int[MOST_DEEDS];
        int coins;
        int law;
        private final int[] numbers = new int[4];

        /** Where the fault is, NONE without one. */
        int readFrom(Page page) {
            pieces = 0;
            deeds = 0;
            roomsAtFirst = 0;
            law = 0;
            coins = COINS_UNTOLD;
            int place = 0;
            while (place < page.length) {
                int next = readItem(page, place);
                if (next <= place) {
                    return place;
                }
                place = next;
            }
            return NONE;
        }

        /** The place behind the item, AWRY if it is not so. */
        private int readItem(Page page, int start) {
            int letter = page.letterAt(start);
            int wanted = numbersBehind(letter);
            int place = start + 1;
            for (int i = 0; i < wanted; i++) {
                int figures = figuresAt(page, place);
                if (figures == 0) {
                    return AWRY;
                }
                numbers[i] = numberAt(page, place, figures);
                place += figures;
                if (page.letterAt(place) != (i + 1 < wanted ? ',' : ';')) {
                    return AWRY;
                }
                place++;
            }
            return takeItem(letter) ? place : AWRY;
        }

        private static int numbersBehind(int letter) {
            switch (letter) {
                case 'p': return 3;
                case 'd': return 4;
                case 'm': return 1;
                case 'l': return 1;
                default: return 0;
            }
        }

        private static boolean isFigure(int letter) {
            return letter >= '0' && letter <= '9';
        }

        private static int figuresAt(Page page, int place) {
            if (!isFigure(page.letterAt(place))) {
                return 0;
            }
            return isFigure(page.letterAt(place + 1)) ? 2 : 1;
        }

        private static int numberAt(Page page, int place, int figures) {
            int number = page.letterAt(place) - '0';
            return figures == 2 ? number * 10 + page.letterAt(place + 1) - '0' : number;
        }

        private boolean takeItem(int letter) {
            switch (letter) {
                case 'p': return takePiece();
                case 'd': return takeDeed();
                case 'm': return takeCoins();
                case 'l': return takeLaw();
                default: return false;
            }
        }

        private boolean takePiece() {
            if (pieces >= MOST_PIECES || numbers[0] >= KINDS || numbers[1] >= ROOMS
                    || numbers[2] > MOST_PRICE) {
                return false;
            }
            kinds[pieces] = numbers[0];
            roomsAtFirst |= numbers[1] << 2 * pieces;
            prices[pieces] = numbers[2];
            pieces++;
            return true;
        }

        private boolean takeDeed() {
            if (deeds >= MOST_DEEDS || numbers[0] >= PERSONS || numbers[1] >= ROOMS
                    || numbers[2] >= HOURS || numbers[3] < 1 || numbers[3] > MOST_WEIGHT) {
                return false;
            }
            persons[deeds] = numbers[0];
            places[deeds] = numbers[1];
            hours[deeds] = numbers[2];
            weights[deeds] = numbers[3];
            deeds++;
            return true;
        }

        private boolean takeCoins() {
            coins = numbers[0];
            return true;
        }

        private boolean takeLaw() {
            if (numbers[0] >= KINDS) {
                return false;
            }
            law |= 1 << numbers[0];
            return true;
        }

        boolean forbids(int kind) {
            return (law >> kind & 1) == 1;
        }

        int toldBy(int p, int room) {
            int all = 0;
            for (int d = 0; d < deeds; d++) {
                if (places[d] == room && wouldTell(kinds[p], room, d, hours[d], weights[d])) {
                    all |= 1 << d;
                }
            }
            return all;
        }

        // The deed's own room, hour and weight are not looked up: they may be supposed ones,
        // and the deed itself one more than there are.
        boolean wouldTell(int kind, int room, int d, int hour, int weight) {
            switch (kind) {
                case TABLE: return true;
                case WARDROBE: return hour >= NOON;
                case SOFA: return laterOnes(room, d, hour) < SOFA_DEEDS;
                case CRADLE: return hour < NOON && weight <= CRADLE_WEIGHT;
                default: return false;
            }
        }

        private int laterOnes(int room, int d, int hour) {
            int later = 0;
            for (int e = 0; e < deeds; e++) {
                boolean isLater = hours[e] > hour || hours[e] == hour && e > d;
                if (e != d && places[e] == room && isLater) {
                    later++;
                }
            }
            return later;
        }

        int deedsAsHeavyAs(int weight) {
            int all = 0;
            for (int d = 0; d < deeds; d++) {
                if (weights[d] >= weight) {
                    all |= 1 << d;
                }
            }
            return all;
        }

        int deedsOf(int person) {
            int all = 0;
            for (int d = 0; d < deeds; d++) {
                if (persons[d] == person) {
                    all |= 1 << d;
                }
            }
            return all;
        }

        int weightOf(int deedSet) {
            int sum = 0;
            for (int d = 0; d < deeds; d++) {
                if ((deedSet >> d & 1) == 1) {
                    sum += weights[d];
                }
            }
            return sum;
        }

        int priceOf(int pieceSet) {
            int sum = 0;
            for (int p = 0; p < pieces; p++) {
                if ((pieceSet >> p & 1) == 1) {
                    sum += prices[p];
                }
            }
            return sum;
        }
    }

    /** All that acts change; it packs into one long, so that past and kept ones are mere numbers. */
    private static final class Standing {
        // Two bits for each piece.
        int rooms;
        int bought;
        int spoken;
        int out;
        int coins;

        void begin(int roomsAtFirst, int purse) {
            rooms = roomsAtFirst;
            bought = 0;
            spoken = 0;
            out = 0;
            coins = purse;
        }

        long packed() {
            return (long) coins << 48 | (long) out << 32 | (long) spoken << 24
                | (long) bought << 16 | rooms;
        }

        void unpack(long all) {
            rooms = (int) (all & 0xffff);
            bought = (int) (all >> 16 & 0xff);
            spoken = (int) (all >> 24 & 0xff);
            out = (int) (all >> 32 & 0xffff);
            coins = (int) (all >> 48);
        }

        int roomOf(int p) {
            return rooms >> 2 * p & 3;
        }

        int howIs(int p) {
            if ((spoken >> p & 1) == 1) {
                return SPOKEN;
            }
            return (bought >> p & 1) == 1 ? BOUGHT : STILL;
        }

        /** How many deeds come out that had not. */
        int letSpeak(int p, int deeds) {
            int fresh = deeds & ~out;
            out |= deeds;
            spoken |= 1 << p;
            return Integer.bitCount(fresh);
        }

        void sell(int p, int price) {
            bought |= 1 << p;
            coins -= price;
        }

        void move(int p, int room) {
            rooms = rooms & ~(3 << 2 * p) | room << 2 * p;
        }
    }

    /** How it stood before each of the latest acts: a ring, in which the oldest gives way. */
    private static final class Past {
        private final long[] ring = new long[MOST_UNDONE];
        private int next;
        int depth;

        void push(long standing) {
            ring[next] = standing;
            next = next + 1 < MOST_UNDONE ? next + 1 : 0;
            depth = Math.min(depth + 1, MOST_UNDONE);
        }

        long pop() {
            next = next > 0 ? next - 1 : MOST_UNDONE - 1;
            depth = Math.max(depth - 1, 0);
            return ring[next];
        }

        void clear() {
            depth = 0;
        }
    }

    /** What is seen, in rows that are overwritten once forgotten. */
    private static final class Sightings {
        final int[] pieces = new int[MOST_SEEN];
        final int[] deeds = new int[MOST_SEEN];
        final boolean[] tells = new boolean[MOST_SEEN];
        int length;

        boolean add(int p, int d, boolean told) {
            if (length >= MOST_SEEN) {
                return false;
            }
            pieces[length] = p;
            deeds[length] = d;
            tells[length] = told;
            length++;
            return true;
        }

        void clear() {
            length = 0;
        }
    }
}
