/** Promises 24 and 25. */
public final class ChancesTest {
    private static final int BAD = SpeaksForTheChair.BAD;

    // Little can be bought, all can speak, and what one tells hangs on where it is.
    private static final String DEAR_HOUSE = "p0,0,60;p1,1,30;p2,2,20;p3,3,60;p0,1,11;p1,0,60;p2,3,60;p0,2,60;m31;"
        + "d0,0,3,5;d0,1,13,5;d0,2,3,5;d0,3,13,5;d0,0,15,5;d0,1,1,5;d0,2,17,5;d0,3,9,5;d0,0,20,5;";

    private ChancesTest() {
    }

    public static void main(String[] args) {
        likely();
        saleRefusals();
        saleByHand();
        saleChangesNothing();
        Checks.end();
    }

    private static void likelyIs(SpeaksForTheChair x, int d, int chance, int above, int below) {
        Checks.due("likely " + d + " by " + chance + ", above", x.likely(d, chance, 0), above);
        Checks.due("likely " + d + " by " + chance + ", below", x.likely(d, chance, 1), below);
    }

    private static void likely() {
        Checks.promise("24 likely");
        SpeaksForTheChair x = new SpeaksForTheChair();
        likelyIs(x, 3, 0, 0, 1);
        likelyIs(x, 3, 1, 1, 10);
        likelyIs(x, 3, 4, 2, 5);
        likelyIs(x, 3, 5, 1, 2);
        likelyIs(x, 3, 10, 1, 1);
        likelyIs(x, 1, 1, 19, 100);
        likelyIs(x, 1, 5, 3, 4);
        likelyIs(x, 1, 6, 21, 25);
        likelyIs(x, 1, 10, 1, 1);
        likelyIs(x, 0, 10, 0, 1);
        x.speak(2);
        likelyIs(x, 3, 0, 1, 1);
        likelyIs(x, 2, 7, 1, 1);
        for (int d : Checks.outside(0, 5)) {
            Checks.due("likely " + d, x.likely(d, 5, 0), BAD);
        }
        for (int chance : Checks.outside(0, 10)) {
            Checks.due("likely by " + chance, x.likely(0, chance, 0), BAD);
        }
        for (int part : Checks.outside(0, 1)) {
            Checks.due("likely part " + part, x.likely(0, 5, part), BAD);
            Checks.due("likely part " + part + ", out", x.likely(3, 5, part), BAD);
        }
        SpeaksForTheChair eight = Checks.laid("p0,0,0;".repeat(8) + "d0,0,0,1;");
        likelyIs(eight, 0, 1, 56953279, 100000000);
        likelyIs(eight, 0, 5, 255, 256);
        likelyIs(eight, 0, 8, 390624, 390625);
        likelyIs(eight, 0, 9, 99999999, 100000000);
        likelyIs(eight, 0, 0, 0, 1);
        eight.buy(7);
        likelyIs(eight, 0, 5, 127, 128);
    }

    private static void saleRefusals() {
        Checks.promise("25 sale");
        SpeaksForTheChair x = new SpeaksForTheChair();
        for (int z : Checks.outside(0, 9999)) {
            if (z != 1000) {
                Checks.due("sale by " + z, x.sale(z, 1, 0), BAD);
            }
        }
        for (int n : Checks.outside(1, 40)) {
            Checks.due("sale of " + n, x.sale(0, n, 0), BAD);
        }
        for (int what : Checks.outside(0, 1)) {
            Checks.due("sale what " + what, x.sale(0, 1, what), BAD);
        }
        Checks.holds("the highest", x.sale(9999, 40, 0) >= 0);
    }

    private static int drawOf(int z, int time) {
        java.math.BigInteger x = java.math.BigInteger.valueOf(7919).multiply(java.math.BigInteger.valueOf(z))
            .add(java.math.BigInteger.valueOf(6151).multiply(java.math.BigInteger.valueOf(time)))
            .add(java.math.BigInteger.ONE);
        return x.multiply(x).mod(java.math.BigInteger.valueOf(65521)).intValue() / 2;
    }

    private static void saleByHand() {
        for (int z : new int[] {0, 1, 2, 3, 77, 500, 4321, 9998, 9999}) {
            for (int n : new int[] {1, 2, 3, 7, 20, 39, 40}) {
                saleIsAsActedOut(new SpeaksForTheChair(), new SpeaksForTheChair(), z, n);
                saleIsAsActedOut(Checks.laid(DEAR_HOUSE), Checks.laid(DEAR_HOUSE), z, n);
            }
        }
        // By pencil: x is 1, then 6152; 6152 x 6152 = 577 x 65521 + 41487, so the draws are 0 and
        // 20743. The first bids piece 0 speak, which the law forbids, the second piece 2.
        Checks.due("one time", new SpeaksForTheChair().sale(0, 1, 0), 0);
        Checks.due("two times", new SpeaksForTheChair().sale(0, 2, 0), 12);
        SpeaksForTheChair one = Checks.laid("p0,2,0;d0,2,0,1;");
        Checks.due("the first draw is 0: piece 0 speaks", one.sale(0, 1, 0), 1);
        SpeaksForTheChair law = Checks.laid("p0,2,0;d0,2,0,1;l0;");
        Checks.due("not against the law", law.sale(0, 40, 0), 0);
    }

    private static void saleIsAsActedOut(SpeaksForTheChair x, SpeaksForTheChair acted, int z, int n) {
        actOut(acted, z, n);
        int out = 0;
        for (int d = 0; d < acted.count(1); d++) {
            out |= acted.deed(d, 4) << d;
        }
        Checks.due("sale " + z + " " + n + ", out", x.sale(z, n, 0), out);
        Checks.due("sale " + z + " " + n + ", coins", x.sale(z, n, 1), acted.count(2));
    }

    private static void actOut(SpeaksForTheChair x, int z, int n) {
        for (int time = 0; time < n; time++) {
            int draw = drawOf(z, time);
            int p = draw % x.count(0);
            int act = draw / 8 % 3;
            if (act == 0) {
                x.speak(p);
            } else if (act == 1) {
                x.buy(p);
            } else {
                x.carry(p, draw / 32 % 4);
            }
        }
    }

    private static void saleChangesNothing() {
        SpeaksForTheChair x = new SpeaksForTheChair();
        x.speak(3);
        x.buy(1);
        x.seen(1, 1, 1);
        x.keep();
        String before = Checks.picture(x);
        for (int z = 0; z < 30; z++) {
            int out = x.sale(z * 331, 40, 0);
            Checks.due("from now on: what has come out stays out", out & 18, 18);
            Checks.holds("from now on: coins are spent alone", x.sale(z * 331, 40, 1) <= 31);
        }
        Checks.holds("nothing changed", before.equals(Checks.picture(x)));
        Checks.due("undo", x.undo(), 1);
        Checks.due("coins", x.count(2), 40);
    }
}
