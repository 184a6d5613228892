/** Promises 12 to 20. */
public final class SilenceTest {
    private static final int BAD = SpeaksForTheChair.BAD;

    private SilenceTest() {
    }

    public static void main(String[] args) {
        hush();
        hushAll();
        hushOne();
        save();
        together();
        cover();
        safe();
        safeBySofas();
        dealer();
        ruin();
        fullHouse();
        Checks.end();
    }

    private static void hush() {
        Checks.promise("12 hush");
        SpeaksForTheChair x = new SpeaksForTheChair();
        int[] prices = {0, 16, 15, 12, 16, 0};
        int[] sets = {0, 10, 20, 4, 10, 0};
        for (int d = 0; d < 6; d++) {
            Checks.due("how much " + d, x.hush(d, 0), prices[d]);
            Checks.due("which " + d, x.hush(d, 1), sets[d]);
        }
        for (int d : Checks.outside(0, 5)) {
            Checks.due("hush " + d, x.hush(d, 0), BAD);
        }
        for (int what : Checks.outside(0, 1)) {
            Checks.due("hush what " + what, x.hush(1, what), BAD);
        }
        x.speak(3);
        Checks.due("it has come out", x.hush(1, 0), SpeaksForTheChair.NONE);
        Checks.due("it has come out", x.hush(1, 1), SpeaksForTheChair.NONE);
        Checks.due("it has come out, bad", x.hush(1, 2), BAD);
        SpeaksForTheChair y = Checks.laid("p0,0,60;p0,0,0;p0,1,0;p0,0,60;d0,0,1,1;m5;");
        Checks.due("whatever the purse", y.hush(0, 0), 120);
        Checks.due("the lowest of several", y.hush(0, 1), 11);
        y.buy(1);
        Checks.due("one is bought", y.hush(0, 1), 9);
        y.carry(0, 2);
        Checks.due("one is carried", y.hush(0, 0), 60);
    }

    private static void hushAll() {
        Checks.promise("13 hushAll");
        SpeaksForTheChair x = new SpeaksForTheChair();
        Checks.due("all", x.hushAll(1, 0), 31);
        Checks.due("all, which", x.hushAll(1, 1), 30);
        Checks.due("as heavy as 15", x.hushAll(15, 1), 14);
        Checks.due("heavier than 15", x.hushAll(16, 1), 4);
        Checks.due("as heavy as 20", x.hushAll(20, 0), 12);
        Checks.due("none so heavy", x.hushAll(21, 0), 0);
        Checks.due("none so heavy", x.hushAll(30, 1), 0);
        for (int w : Checks.outside(1, 30)) {
            Checks.due("hushAll " + w, x.hushAll(w, 0), BAD);
        }
        for (int what : Checks.outside(0, 1)) {
            Checks.due("hushAll what " + what, x.hushAll(1, what), BAD);
        }
        Checks.due("the first deed, as heavy", Checks.laid("p0,0,3;d0,0,0,5;").hushAll(5, 0), 3);
        Checks.due("the first deed, less heavy", Checks.laid("p0,0,3;d0,0,0,5;").hushAll(6, 0), 0);
        x.speak(1);
        Checks.due("what has come out is not asked for", x.hushAll(10, 1), 4);
        Checks.due("how much", x.hushAll(1, 0), 15);
    }

    private static void hushOne() {
        Checks.promise("14 hushOne");
        SpeaksForTheChair x = new SpeaksForTheChair();
        int[] sets = {20, 10, 4, 0, 0, 0};
        int[] prices = {15, 16, 12, 0, 0, 0};
        for (int person = 0; person < 6; person++) {
            Checks.due("which of " + person, x.hushOne(person, 1), sets[person]);
            Checks.due("how much of " + person, x.hushOne(person, 0), prices[person]);
        }
        for (int person : Checks.outside(0, 5)) {
            Checks.due("hushOne " + person, x.hushOne(person, 0), BAD);
        }
        for (int what : Checks.outside(0, 1)) {
            Checks.due("hushOne what " + what, x.hushOne(0, what), BAD);
        }
        x.speak(4);
        Checks.due("his have come out", x.hushOne(0, 1), 0);
        Checks.due("those of others have not", x.hushOne(2, 1), 4);
    }

    private static void save() {
        Checks.promise("15 save");
        SpeaksForTheChair x = new SpeaksForTheChair();
        Checks.due("as much", x.save(0), 0);
        Checks.due("which", x.save(1), 30);
        for (int what : Checks.outside(0, 1)) {
            Checks.due("save what " + what, x.save(what), BAD);
        }
        String house = "p0,0,10;p0,1,10;p0,2,10;d0,0,1,9;d0,1,1,9;d0,2,1,8;";
        Checks.due("none to be had, as much", Checks.laid(house + "m9;").save(0), 26);
        Checks.due("none to be had, which", Checks.laid(house + "m9;").save(1), 0);
        Checks.due("one to be had, as much", Checks.laid(house + "m10;").save(0), 17);
        Checks.due("one to be had: the lowest", Checks.laid(house + "m10;").save(1), 1);
        Checks.due("two to be had", Checks.laid(house + "m29;").save(1), 3);
        Checks.due("three to be had", Checks.laid(house + "m30;").save(1), 7);
        Checks.due("three to be had, as much", Checks.laid(house + "m30;").save(0), 0);
        Checks.due("the law", Checks.laid(house + "m30;l0;").save(1), 0);
        SpeaksForTheChair y = Checks.laid(house + "m20;");
        y.speak(0);
        Checks.due("what has come out weighs nothing", y.save(1), 6);
        Checks.due("as much", y.save(0), 0);
        y.buy(1);
        Checks.due("coins left", y.save(1), 4);
        SpeaksForTheChair both = Checks.laid("p0,0,5;p0,0,5;p0,1,7;d0,0,1,9;d0,1,1,3;m9;");
        Checks.due("one of two that tell the same is no use", both.save(1), 4);
        Checks.due("as much", both.save(0), 9);
    }

    private static void together() {
        Checks.promise("16 together");
        SpeaksForTheChair x = new SpeaksForTheChair();
        int[] tell = {19, 18, 12, 18, 4, 32, 0};
        for (int p = 0; p < 7; p++) {
            for (int q = 0; q < 7; q++) {
                Checks.due("together " + p + " " + q, x.together(p, q), p == q ? BAD : tell[p] & tell[q]);
            }
            for (int q : Checks.outside(0, 6)) {
                Checks.due("together " + p + " " + q, x.together(p, q), BAD);
                Checks.due("together " + q + " " + p, x.together(q, p), BAD);
            }
        }
        x.speak(1);
        x.buy(3);
        Checks.due("spoken and bought ones, too", x.together(1, 3), 18);
        x.carry(0, 1);
        Checks.due("where they are now", x.together(0, 2), 12);
    }

    private static void cover() {
        Checks.promise("17 cover");
        SpeaksForTheChair x = new SpeaksForTheChair();
        Checks.due("how many", x.cover(0), 2);
        Checks.due("the lowest of several", x.cover(1), 6);
        for (int what : Checks.outside(0, 1)) {
            Checks.due("cover what " + what, x.cover(what), BAD);
        }
        x.speak(1);
        Checks.due("without a spoken one, what has come out counts", x.cover(1), 12);
        SpeaksForTheChair y = Checks.laid("p0,0,0;p1,0,0;p3,0,0;p0,1,0;d0,0,1,1;d0,0,13,1;");
        Checks.due("the fewest", y.cover(1), 1);
        y.buy(0);
        Checks.due("how many without it", y.cover(0), 2);
        Checks.due("which without it", y.cover(1), 6);
        Checks.due("nothing to tell", Checks.laid("p0,0,0;p1,1,1;").cover(0), 0);
        Checks.due("nothing to tell", Checks.laid("p0,0,0;p1,1,1;").cover(1), 0);
        Checks.due("the law", Checks.laid("p0,0,0;d0,0,1,1;l0;").cover(1), 0);
        SpeaksForTheChair fewer = Checks.laid("p2,0,0;p2,1,0;p0,0,0;p3,1,0;d0,0,1,1;d0,0,2,1;d0,0,3,1;d0,1,2,2;");
        Checks.due("fewer before lower", fewer.cover(1), 6);
        SpeaksForTheChair high = Checks.laid("p3,0,0;p1,0,0;p0,0,0;d0,0,1,1;d0,0,13,1;");
        Checks.due("one higher before two lower", high.cover(1), 4);
        Checks.due("one higher before two lower", high.cover(0), 1);
    }

    private static void safe() {
        Checks.promise("18 safe");
        SpeaksForTheChair x = new SpeaksForTheChair();
        Checks.due("safe 10 5", x.safe(10, 5), 13);
        Checks.due("safe 2 10: the cradle of room 1 tells it", x.safe(2, 10), 13);
        Checks.due("safe 2 11: too heavy for the cradle, too early for the sofa", x.safe(2, 11), 15);
        Checks.due("safe 3 11: for the sofa later than what was done at 3", x.safe(3, 11), 13);
        Checks.due("safe 14 5", x.safe(14, 5), 8);
        for (int t : Checks.outside(0, 23)) {
            Checks.due("safe at " + t, x.safe(t, 5), BAD);
        }
        for (int w : Checks.outside(1, 30)) {
            Checks.due("safe for " + w, x.safe(0, w), BAD);
        }
        SpeaksForTheChair y = Checks.laid("p0,0,1;p1,1,1;p3,2,1;");
        Checks.due("11, 10", y.safe(11, 10), 0b1010);
        Checks.due("11, 11", y.safe(11, 11), 0b1110);
        Checks.due("12, 10", y.safe(12, 10), 0b1100);
        Checks.due("0, 1", y.safe(0, 1), 0b1010);
        Checks.due("23, 30", y.safe(23, 30), 0b1100);
        y.buy(0);
        Checks.due("a bought one does not tell", y.safe(11, 11), 15);
        y.carry(1, 3);
        Checks.due("carried", y.safe(12, 1), 0b0111);
        Checks.due("the law", Checks.laid("p0,0,1;p1,0,1;l0;").safe(0, 1), 15);
    }

    private static void safeBySofas() {
        SpeaksForTheChair x = Checks.laid("p2,0,1;p2,1,1;p2,2,1;p2,3,1;d0,1,9,1;d0,2,9,1;d0,2,9,1;"
            + "d0,3,9,1;d0,3,5,1;d0,3,20,1;");
        Checks.due("one more is among two, or of like hours the later", x.safe(9, 1), 0);
        Checks.due("earlier than two", x.safe(8, 1), 0b1100);
        Checks.due("later", x.safe(10, 1), 0);
        SpeaksForTheChair full = Checks.laid("p2,0,0;" + "d0,0,7,1;".repeat(9));
        Checks.due("a tenth deed, early", full.safe(6, 30), 15);
        Checks.due("a tenth deed, alike", full.safe(7, 30), 14);
    }

    private static void dealer() {
        Checks.promise("19 dealer");
        SpeaksForTheChair x = new SpeaksForTheChair();
        String before = Checks.picture(x);
        Checks.due("all together", x.dealer(-1), 49);
        Checks.due("the first", x.dealer(0), 2);
        Checks.due("the second, the lowest of several", x.dealer(1), 1);
        Checks.due("no third", x.dealer(2), SpeaksForTheChair.NONE);
        Checks.due("no such", x.dealer(Integer.MAX_VALUE), SpeaksForTheChair.NONE);
        Checks.due("below", x.dealer(-2), BAD);
        Checks.due("far below", x.dealer(Integer.MIN_VALUE), BAD);
        Checks.holds("nothing changed", before.equals(Checks.picture(x)));
        x.speak(4);
        Checks.due("what has come out weighs nothing", x.dealer(-1), 41);
        Checks.due("the first then", x.dealer(0), 1);
        Checks.due("the second then", x.dealer(1), 2);
        SpeaksForTheChair y = Checks.laid("p3,0,0;p0,0,0;p0,1,0;p0,2,0;d0,0,3,5;d0,0,13,5;d0,1,1,6;d0,3,0,30;");
        Checks.due("the heaviest", y.dealer(0), 1);
        Checks.due("then", y.dealer(1), 2);
        Checks.due("no one else lets any come out", y.dealer(2), SpeaksForTheChair.NONE);
        Checks.due("all together", y.dealer(-1), 16);
        y.buy(1);
        Checks.due("a bought one is not had to speak", y.dealer(0), 2);
        Checks.due("then", y.dealer(1), 0);
        Checks.due("all together", y.dealer(-1), 11);
        SpeaksForTheChair eight = Checks.laid("p0,0,0;p0,0,0;p0,1,0;p0,2,0;p0,3,0;"
            + "d0,0,0,1;d0,1,0,2;d0,2,0,3;d0,3,0,4;");
        int[] order = {4, 3, 2, 0, SpeaksForTheChair.NONE};
        for (int k = 0; k < order.length; k++) {
            Checks.due("the one at " + k, eight.dealer(k), order[k]);
        }
    }

    /** As many pieces and deeds as there can be: piece p is in room p modulo 4, as deed d is in room d modulo 4. */
    private static void fullHouse() {
        Checks.promise("12 to 20 in a full house");
        StringBuilder text = new StringBuilder("m99;");
        for (int p = 0; p < 8; p++) {
            text.append("p0,").append(p % 4).append(",").append(p + 1).append(";");
        }
        for (int d = 0; d < 9; d++) {
            text.append("d").append(d % 6).append(",").append(d % 4).append(",0,").append(d + 1).append(";");
        }
        SpeaksForTheChair x = Checks.laid(text.toString());
        Checks.due("hush the first", x.hush(0, 1), 0b10001);
        Checks.due("hush the last", x.hush(8, 0), 6);
        Checks.due("hush all", x.hushAll(1, 1), 255);
        Checks.due("hush all, how much", x.hushAll(1, 0), 36);
        Checks.due("hush the heaviest", x.hushAll(9, 1), 0b10001);
        Checks.due("hush one", x.hushOne(0, 1), 0b1010101);
        Checks.due("hush another", x.hushOne(5, 1), 0b100010);
        Checks.due("save", x.save(1), 255);
        Checks.due("save, as much", x.save(0), 0);
        Checks.due("together", x.together(3, 7), 0b10001000);
        Checks.due("cover", x.cover(1), 15);
        Checks.due("cover, how many", x.cover(0), 4);
        Checks.due("safe", x.safe(0, 1), 0);
        Checks.due("dealer, all", x.dealer(-1), 45);
        int[] order = {0, 3, 2, 1, SpeaksForTheChair.NONE};
        for (int k = 0; k < order.length; k++) {
            Checks.due("dealer " + k, x.dealer(k), order[k]);
        }
        x.speak(7);
        x.speak(4);
        Checks.due("ruin", x.ruin(0), 1);
        Checks.due("ruin", x.ruin(2), 9);
        Checks.due("ruin", x.ruin(3), 4);
        x.buy(0);
        Checks.due("save what has not come out", x.save(1), 0b1100110);
        Checks.due("cover by the loose ones", x.cover(1), 0b1110);
    }

    private static void ruin() {
        Checks.promise("20 ruin");
        SpeaksForTheChair x = new SpeaksForTheChair();
        for (int person = 0; person < 6; person++) {
            Checks.due("ruin " + person, x.ruin(person), 0);
        }
        for (int person : Checks.outside(0, 5)) {
            Checks.due("ruin " + person, x.ruin(person), BAD);
        }
        x.speak(1);
        x.speak(2);
        int[] ruined = {8, 21, 20, 0, 0, 0};
        for (int person = 0; person < 6; person++) {
            Checks.due("ruin " + person, x.ruin(person), ruined[person]);
        }
        x.undo();
        Checks.due("undone", x.ruin(2), 0);
    }
}
