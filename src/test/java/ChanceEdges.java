import java.math.BigInteger;

/** Boundary cases of promises 24 and 25. */
final class ChanceEdges {
    private static final int BAD = SpeaksForTheChair.BAD;

    private ChanceEdges() {
    }

    // ---- promise 24

    private static void likelyIs(SpeaksForTheChair x, int d, int chance, int above, int below) {
        Checks.due("likely " + d + " by " + chance + ", above", x.likely(d, chance, 0), above);
        Checks.due("likely " + d + " by " + chance + ", below", x.likely(d, chance, 1), below);
    }

    @Sentence(of = 24, words = "LIKELY: above (part = 0), below (1). BAD.")
    static void likelyOfWhatThereIsNot() {
        for (int d : Checks.outside(0, 5)) {
            Checks.keepsAll("likely " + d, Houses::livedIn, x -> x.likely(d, 5, 0), BAD);
        }
        for (int chance : Checks.outside(0, 10)) {
            Checks.keepsAll("likely by " + chance, Houses::livedIn, x -> x.likely(0, chance, 0), BAD);
            Checks.keepsAll("likely by " + chance + ", come out", Houses::livedIn, x -> x.likely(1, chance, 1), BAD);
        }
        for (int part : Checks.outside(0, 1)) {
            Checks.keepsAll("likely part " + part, Houses::livedIn, x -> x.likely(0, 5, part), BAD);
            Checks.keepsAll("likely part " + part + ", come out", Houses::livedIn, x -> x.likely(1, 5, part), BAD);
        }
        Checks.due("the last of nine", Houses.eight(0).likely(8, 5, 1), 1);
        Checks.due("above nine", Houses.eight(0).likely(9, 5, 1), BAD);
        Checks.due("above one", Checks.laid("p0,0,0;d0,0,0,1;").likely(1, 5, 1), BAD);
    }

    @Sentence(of = 24, words = "LIKELY for a DEED: each LOOSE PIECE SPEAKS by x (0 to 10) of ten, for itself")
    static void byNoneByAllAndByEachBetween() {
        int[][] one = {{0, 1}, {1, 10}, {1, 5}, {3, 10}, {2, 5}, {1, 2}, {3, 5}, {7, 10}, {4, 5}, {9, 10}, {1, 1}};
        int[][] two = {{0, 1}, {19, 100}, {9, 25}, {51, 100}, {16, 25}, {3, 4}, {21, 25}, {91, 100}, {24, 25},
            {99, 100}, {1, 1}};
        SpeaksForTheChair x = Checks.laid("p0,0,0;p0,1,0;p0,1,0;d0,0,0,1;d0,1,0,1;d0,2,0,1;");
        for (int chance = 0; chance <= 10; chance++) {
            likelyIs(x, 0, chance, one[chance][0], one[chance][1]);
            likelyIs(x, 1, chance, two[chance][0], two[chance][1]);
            likelyIs(x, 2, chance, 0, 1);
        }
    }

    @Sentence(of = 24, words = "how likely the DEED has COME OUT then, in lowest terms")
    static void lowestTermsOfEightTellers() {
        String text = "p0,0,0;".repeat(8) + "d0,0,0,1;";
        for (int chance = 0; chance <= 10; chance++) {
            SpeaksForTheChair x = Checks.laid(text);
            for (int tellers = 8; tellers >= 0; tellers--) {
                BigInteger below = BigInteger.TEN.pow(tellers);
                BigInteger above = below.subtract(BigInteger.valueOf(10 - chance).pow(tellers));
                BigInteger shared = above.gcd(below);
                likelyIs(x, 0, chance, above.divide(shared).intValue(), below.divide(shared).intValue());
                Checks.due("buy", x.buy(Math.max(0, tellers - 1)), tellers == 0 ? SpeaksForTheChair.NO : 50);
            }
        }
        likelyIs(Checks.laid(text), 0, 9, 99999999, 100000000);
        likelyIs(Checks.laid(text), 0, 8, 390624, 390625);
        likelyIs(Checks.laid(text), 0, 5, 255, 256);
    }

    @Sentence(of = 24, words = "how likely the DEED has COME OUT then")
    static void whatHasComeOutHasComeOut() {
        SpeaksForTheChair x = Houses.livedIn();
        for (int chance = 0; chance <= 10; chance++) {
            likelyIs(x, 1, chance, 1, 1);
            likelyIs(x, 0, chance, 0, 1);
        }
        SpeaksForTheChair again = Checks.laid("p0,0,0;p0,0,0;d0,0,0,1;");
        again.speak(0);
        likelyIs(again, 0, 0, 1, 1);
        likelyIs(again, 0, 5, 1, 1);
        again.undo();
        likelyIs(again, 0, 0, 0, 1);
        likelyIs(again, 0, 5, 3, 4);
        likelyIs(Checks.laid("p0,0,0;d0,0,0,1;l0;"), 0, 10, 0, 1);
    }

    // ---- promise 25

    static int drawOf(int z, int time) {
        BigInteger x = BigInteger.valueOf(7919).multiply(BigInteger.valueOf(z))
            .add(BigInteger.valueOf(6151).multiply(BigInteger.valueOf(time))).add(BigInteger.ONE);
        return x.multiply(x).mod(BigInteger.valueOf(65521)).intValue() / 2;
    }

    /** The sale is acted out, call by call, in a twin house; what was refused is counted. */
    private static int saleIsAsActedOut(String text, int z, int n) {
        SpeaksForTheChair acted = Checks.laid(text);
        int refused = 0;
        for (int time = 0; time < n; time++) {
            int draw = drawOf(z, time);
            int p = draw % acted.count(0);
            switch (draw / 8 % 3) {
                case 0: refused += acted.speak(p) < 0 ? 1 : 0; break;
                case 1: refused += acted.buy(p) < 0 ? 1 : 0; break;
                default: refused += acted.carry(p, draw / 32 % 4) < 0 ? 1 : 0; break;
            }
        }
        int out = 0;
        for (int d = 0; d < acted.count(1); d++) {
            out |= acted.deed(d, 4) << d;
        }
        SpeaksForTheChair x = Checks.laid(text);
        Checks.due("sale " + z + " of " + n + ", out, of " + text, x.sale(z, n, 0), out);
        Checks.due("sale " + z + " of " + n + ", coins, of " + text, x.sale(z, n, 1), acted.count(2));
        return refused;
    }

    @Sentence(of = 25, words = "A SALE: what has COME OUT (what = 0), COINS (1). BAD.")
    static void saleOfWhatThereIsNot() {
        for (int z : new int[] {-1, -2, -1000, 10000, 10001, 65536, Integer.MIN_VALUE, Integer.MAX_VALUE}) {
            Checks.keepsAll("sale by " + z, Houses::livedIn, x -> x.sale(z, 1, 0), BAD);
        }
        for (int n : Checks.outside(1, 40)) {
            Checks.keepsAll("sale of " + n, Houses::livedIn, x -> x.sale(0, n, 0), BAD);
        }
        for (int what : Checks.outside(0, 1)) {
            Checks.keepsAll("sale what " + what, Houses::livedIn, x -> x.sale(0, 1, what), BAD);
        }
    }

    @Sentence(of = 25, words = "A SALE by z (0 to 9999) of n (1 to 40) times from now on")
    static void theLeastAndTheGreatestSale() {
        String text = "p0,0,9;p1,1,8;p2,2,7;p3,3,6;p0,1,5;p1,2,4;p2,3,3;p3,0,2;m20;"
            + "d0,0,3,5;d0,1,13,5;d0,2,3,5;d0,3,13,5;d0,0,15,5;d0,1,1,5;d0,2,17,5;d0,3,9,5;d0,0,20,5;";
        int refused = 0;
        for (int z : new int[] {0, 1, 2, 9997, 9998, 9999}) {
            for (int n : new int[] {1, 2, 39, 40}) {
                refused += saleIsAsActedOut(text, z, n);
            }
        }
        Checks.holds("some was refused on the way", refused > 0);
    }

    @Sentence(of = 25, words = "DRAW being ((x times x) modulo 65521) by 2, cut, x 7919 z, 6151 (the time, 0 first) and 1"
        + " together")
    static void theGreatestDrawDoesNotWrapAround() {
        // x = 7919 x 9999 + 6151 x 39 + 1 = 79421971, whose square is beyond an int.
        Checks.due("the last draw of all, reckoned here", drawOf(9999, 39), 79421971L * 79421971L % 65521 / 2);
        // Each piece tells one deed, so that what comes out shows which piece was drawn.
        String text = "p0,0,0;p0,1,0;p0,2,0;p0,3,0;m0;d0,0,0,1;d0,1,0,1;d0,2,0,1;d0,3,0,1;";
        for (int z = 9960; z <= 9999; z++) {
            saleIsAsActedOut(text, z, 40);
            saleIsAsActedOut(text, z, 1);
        }
        // The first draw by 0 is 0: piece 0 speaks, however many there are.
        for (int pieces = 1; pieces <= 8; pieces++) {
            String some = "p0,0,0;".repeat(pieces) + "d0,0,0,1;";
            Checks.due("of " + pieces, Checks.laid(some).sale(0, 1, 0), 1);
            Checks.due("of " + pieces + ", coins", Checks.laid(some).sale(0, 1, 1), 50);
        }
    }

    @Sentence(of = 25, words = "is BOUGHT, if it is STILL, that is 1, and the COINS do")
    static void theCoinsDoByTheLastOne() {
        int z = firstSaleThatBuys();
        Checks.due("all coins", Checks.laid("p0,0,7;m7;").sale(z, 1, 1), 0);
        Checks.due("one less", Checks.laid("p0,0,7;m6;").sale(z, 1, 1), 6);
        Checks.due("one more", Checks.laid("p0,0,7;m8;").sale(z, 1, 1), 1);
        Checks.due("nothing for nothing", Checks.laid("p0,0,0;m0;").sale(z, 1, 1), 0);
        Checks.due("forbidden by law it is bought", Checks.laid("p0,0,7;l0;m7;").sale(z, 1, 1), 0);
        SpeaksForTheChair x = Checks.laid("p0,0,7;m50;");
        x.buy(0);
        Checks.due("bought already", x.sale(z, 1, 1), 43);
        SpeaksForTheChair spoken = Checks.laid("p0,0,7;m50;");
        spoken.speak(0);
        Checks.due("spoken", spoken.sale(z, 1, 1), 50);
        Checks.due("bought once in forty times", Checks.laid("p0,0,7;m50;l0;").sale(z, 40, 1), 43);
    }

    private static int firstSaleThatBuys() {
        int z = 0;
        while (drawOf(z, 0) / 8 % 3 != 1) {
            z++;
        }
        return z;
    }

    @Sentence(of = 25, words = "SPEAKS, if it is LOOSE and (DRAW by 8, cut) modulo 3 is 0")
    static void onlyLooseOnesSpeakAtASale() {
        Checks.due("a loose one", Checks.laid("p0,0,0;d0,0,0,1;").sale(0, 1, 0), 1);
        Checks.due("forbidden by law", Checks.laid("p0,0,0;d0,0,0,1;l0;").sale(0, 40, 0), 0);
        SpeaksForTheChair bought = Checks.laid("p0,0,0;d0,0,0,1;");
        bought.buy(0);
        Checks.due("bought", bought.sale(0, 40, 0), 0);
        SpeaksForTheChair spoken = Checks.laid("p0,0,0;p0,0,60;d0,0,0,1;m0;");
        spoken.speak(0);
        Checks.due("what had come out has come out", spoken.sale(0, 1, 0), 1);
        Checks.due("no deeds", Checks.laid("p0,0,0;").sale(9999, 40, 0), 0);
        Checks.due("all nine", Checks.laid("p0,0,0;" + "d0,0,0,1;".repeat(9)).sale(0, 1, 0), 511);
    }

    @Sentence(of = 25, words = "is CARRIED to ROOM (DRAW by 32, cut) modulo 4, if it has not SPOKEN and that is 2")
    static void stillOnesAreCarriedAtASale() {
        // In each room a deed: what has come out shows where the piece was carried before it spoke.
        String text = "p0,0,60;d0,0,0,1;d0,1,0,1;d0,2,0,1;d0,3,0,1;m0;";
        int rooms = 0;
        for (int z = 0; z < 200; z++) {
            saleIsAsActedOut(text, z, 1 + z % 40);
            rooms |= Checks.laid(text).sale(z, 1 + z % 40, 0);
        }
        Checks.due("it has spoken in each room", rooms, 15);
        String two = "p0,0,30;p1,0,30;d0,0,13,1;d0,1,14,1;d0,2,0,1;d0,3,15,1;d0,0,1,1;m30;";
        for (int z = 9800; z <= 9999; z++) {
            saleIsAsActedOut(two, z, 1 + z % 40);
        }
    }

    @Sentence(of = 25, words = "(nothing changes by it)")
    static void aSaleChangesNothing() {
        SpeaksForTheChair x = new SpeaksForTheChair();
        int first = x.sale(77, 40, 0);
        Checks.due("asked again", x.sale(77, 40, 0), first);
        for (int z : new int[] {0, 1, 77, 9999}) {
            for (int n : new int[] {1, 40}) {
                int out = Houses.livedIn().sale(z, n, 0);
                int coins = Houses.livedIn().sale(z, n, 1);
                Checks.keepsAll("sale " + z + " of " + n, Houses::livedIn, y -> y.sale(z, n, 0), out);
                Checks.keepsAll("sale " + z + " of " + n, Houses::livedIn, y -> y.sale(z, n, 1), coins);
                Checks.due("from now on: what has come out", out & 18, 18);
                Checks.holds("from now on: coins", coins >= 0 && coins <= 28);
            }
        }
    }
}
