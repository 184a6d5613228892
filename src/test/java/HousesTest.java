/** Promises 1 to 7. */
public final class HousesTest {
    private HousesTest() {
    }

    public static void main(String[] args) {
        newObject();
        write();
        wipe();
        fault();
        faultByLimits();
        lay();
        layBeginsAnew();
        piece();
        tells();
        deed();
        Checks.end();
    }

    private static void newObject() {
        Checks.promise("1 a new object");
        SpeaksForTheChair x = new SpeaksForTheChair();
        int[] counts = {7, 6, 40, 5, 0, 0, 0, 0, 0, 0, 0};
        for (int what = 0; what < counts.length; what++) {
            Checks.due("count " + what, x.count(what), counts[what]);
        }
        int[][] pieces = {{0, 0, 20}, {1, 0, 9}, {2, 1, 12}, {2, 0, 7}, {3, 1, 3}, {0, 2, 30}, {1, 2, 5}};
        for (int p = 0; p < pieces.length; p++) {
            for (int what = 0; what < 3; what++) {
                Checks.due("piece " + p + " " + what, x.piece(p, what), pieces[p][what]);
            }
            Checks.due("piece " + p + " still", x.piece(p, 3), 0);
            Checks.due("piece " + p + " loose", x.piece(p, 5), pieces[p][0] == 0 ? 0 : 1);
        }
        int[][] deeds = {{0, 0, 9, 4}, {1, 0, 22, 15}, {0, 1, 3, 8}, {2, 1, 14, 20}, {1, 0, 13, 6}, {3, 2, 7, 11}};
        for (int d = 0; d < deeds.length; d++) {
            for (int what = 0; what < 4; what++) {
                Checks.due("deed " + d + " " + what, x.deed(d, what), deeds[d][what]);
            }
            Checks.due("deed " + d + " out", x.deed(d, 4), 0);
        }
        Checks.due("fault", x.fault(), SpeaksForTheChair.NONE);
        Checks.due("wipe", x.wipe(), 0);
        Checks.due("lay", x.lay(), SpeaksForTheChair.NO);
        Checks.due("two objects are two", new SpeaksForTheChair().speak(2) + x.count(5), 2);
    }

    private static void write() {
        Checks.promise("2 write");
        SpeaksForTheChair x = new SpeaksForTheChair();
        Checks.due("the lowest letter", x.write(32), 1);
        Checks.due("the highest letter", x.write(126), 2);
        for (int letter : Checks.outside(32, 126)) {
            Checks.due("write " + letter, x.write(letter), SpeaksForTheChair.BAD);
        }
        Checks.due("a letter as 65 by a char's wrap", x.write(65536 + 65), SpeaksForTheChair.BAD);
        Checks.due("length", x.count(10), 2);
        for (int i = 3; i <= 200; i++) {
            Checks.due("write " + i, x.write('a'), i);
        }
        Checks.due("one more", x.write('a'), SpeaksForTheChair.FULL);
        Checks.due("one more, bad", x.write(31), SpeaksForTheChair.BAD);
        Checks.due("length", x.count(10), 200);
        Checks.due("wipe", x.wipe(), 200);
        Checks.due("write again", x.write('p'), 1);
    }

    private static void wipe() {
        Checks.promise("3 wipe");
        SpeaksForTheChair x = new SpeaksForTheChair();
        Checks.due("wipe of nothing", x.wipe(), 0);
        Checks.write(x, "p9");
        Checks.due("fault", x.fault(), 0);
        x.speak(1);
        x.seen(0, 0, 1);
        x.keep();
        Checks.due("wipe", x.wipe(), 2);
        Checks.due("length", x.count(10), 0);
        Checks.due("fault", x.fault(), SpeaksForTheChair.NONE);
        Checks.due("wipe again", x.wipe(), 0);
        Checks.due("the house stands", x.count(0), 7);
        Checks.due("what has come out stands", x.count(6), 2);
        Checks.due("what is seen stands", x.count(7), 1);
        Checks.due("what can be undone stands", x.count(8), 1);
        Checks.due("what is kept stands", x.count(9), 1);
    }

    private static void faultIs(String text, int want) {
        SpeaksForTheChair x = new SpeaksForTheChair();
        Checks.write(x, text);
        String before = Checks.picture(x);
        Checks.due("fault of \"" + text + "\"", x.fault(), want);
        Checks.holds("fault of \"" + text + "\" changes nothing", before.equals(Checks.picture(x)));
    }

    private static void fault() {
        Checks.promise("4 fault");
        int none = SpeaksForTheChair.NONE;
        String[] fine = {"", "p0,0,0;", "p3,3,60;", "p00,01,05;", "d0,0,0,1;", "d5,3,23,30;", "d05,03,00,01;",
            "m0;", "m99;", "m05;", "m1;m2;m3;", "l0;", "l3;", "l03;", "l1;l1;l1;l1;l1;l1;l1;l1;l1;l1;",
            "l0;m1;d0,0,0,1;p0,0,0;"};
        for (String text : fine) {
            faultIs(text, none);
        }
        String[] awry = {"p4,0,0;", "p0,4,0;", "p0,0,61;", "p99,0,0;", "p0,0,000;", "p000,0,0;", "p0,0,0", "p0,0,",
            "p0,0", "p0,0;", "p0,0,0,0;", "p0;0,0;", "p0,0,;", "p,0,0;", "p0,,0;", "p;", "p", " p0,0,0;", "P0,0,0;",
            "p 0,0,0;", "p0 ,0,0;", "p-1,0,0;", "p+1,0,0;", "p0.0,0;", "p0,0,0:", "p0,0,0/", "p0,0,:;", "p0,0,/;",
            "d6,0,0,1;", "d0,4,0,1;", "d0,0,24,1;", "d0,0,0,0;", "d0,0,0,00;", "d0,0,0,31;", "d0,0,0;", "d0,0,0,1",
            "d0,0,0,1,1;", "d0,0,0,001;", "m;", "m100;", "m1", "m1,1;", "m", "l4;", "l;", "l0", "l0,0;", "l99;",
            "x1;", ";", ",", "0", "~", "pp0,0,0;", "o0,0,0;", "q0,0,0;", "c0,0,0,1;", "e0,0,0,1;", "k1;", "n1;"};
        for (String text : awry) {
            faultIs(text, 0);
            faultIs("p0,0,0;" + text, 7);
            faultIs("p0,0,0;d0,0,0,10;m5;l2;" + text + "p9;", 23);
        }
        faultIs("p0,0,0; ", 7);
        faultIs("p0,0,0;;", 7);
        faultIs("m1;m2", 3);
    }

    private static void faultByLimits() {
        faultIs("p0,0,0;".repeat(8), SpeaksForTheChair.NONE);
        faultIs("p0,0,0;".repeat(9), 56);
        faultIs("m1;" + "p0,0,0;".repeat(9) + "x", 59);
        faultIs("d0,0,0,1;".repeat(9), SpeaksForTheChair.NONE);
        faultIs("d0,0,0,1;".repeat(10), 81);
        faultIs("p0,0,0;".repeat(8) + "d0,0,0,1;".repeat(9), SpeaksForTheChair.NONE);
        faultIs("l0;".repeat(66) + "m1", 198);
        faultIs("m1;".repeat(65) + "m0005", 195);
        faultIs("m1;".repeat(65) + "p0,1,", 195);
        faultIs("m1;".repeat(64) + "p0,0,10;", SpeaksForTheChair.NONE);
        SpeaksForTheChair x = new SpeaksForTheChair();
        Checks.write(x, "m1;m");
        Checks.due("an item begun", x.fault(), 3);
        Checks.write(x, "2;");
        Checks.due("an item ended", x.fault(), SpeaksForTheChair.NONE);
        x.wipe();
        Checks.write(x, "m");
        Checks.due("letters of a wiped text are not read", x.fault(), 0);
    }

    private static void lay() {
        Checks.promise("5 lay");
        for (String text : new String[] {"", "m1;", "d0,0,0,1;l1;m5;", "p0,0,0;p0,0,61;", "p0,0,0;p", "p1,1,1; "}) {
            SpeaksForTheChair y = new SpeaksForTheChair();
            y.speak(2);
            y.seen(1, 1, 1);
            y.keep();
            Checks.write(y, text);
            String before = Checks.picture(y);
            Checks.due("lay \"" + text + "\"", y.lay(), SpeaksForTheChair.NO);
            Checks.holds("nothing changed by \"" + text + "\"", before.equals(Checks.picture(y)));
            Checks.due("kept yet", y.back(), 0);
        }
        SpeaksForTheChair x = new SpeaksForTheChair();
        Checks.write(x, "m3;l1;d5,3,23,30;p1,2,60;l3;m7;p3,3,0;");
        Checks.due("lay", x.lay(), 2);
        int[] counts = {2, 1, 7, 0, 0, 0, 0, 0, 0, 0, 38};
        for (int what = 0; what < counts.length; what++) {
            Checks.due("count " + what, x.count(what), counts[what]);
        }
        Checks.due("fault", x.fault(), SpeaksForTheChair.NONE);
        Checks.due("coins without m", Checks.laid("p0,0,0;").count(2), 50);
        Checks.due("no coins", Checks.laid("p0,0,0;m9;m0;").count(2), 0);
        Checks.due("the last of several", Checks.laid("m9;p0,0,0;m99;").count(2), 99);
        Checks.due("eight pieces", Checks.laid("p0,0,0;".repeat(8)).count(0), 8);
        Checks.due("nine deeds", Checks.laid("p0,0,0;" + "d0,0,0,1;".repeat(9)).count(1), 9);
        Checks.due("two figures", Checks.laid("p03,02,07;").piece(0, 2), 7);
    }

    private static void layBeginsAnew() {
        SpeaksForTheChair x = Checks.laid("p0,1,5;p1,2,9;d1,1,4,7;m20;");
        x.speak(0);
        x.buy(1);
        x.carry(1, 0);
        x.seen(0, 0, 1);
        x.keep();
        x.keep();
        Checks.due("lay the same again", x.lay(), 2);
        int[] counts = {2, 1, 20, 2, 0, 0, 0, 0, 0, 0, 27};
        for (int what = 0; what < counts.length; what++) {
            Checks.due("count " + what + " after laying again", x.count(what), counts[what]);
        }
        Checks.due("still", x.piece(0, 3), 0);
        Checks.due("where it was told", x.piece(1, 1), 2);
        Checks.due("undo", x.undo(), SpeaksForTheChair.NO);
        Checks.due("back", x.back(), SpeaksForTheChair.NO);
        Checks.due("no law is left of the first house", x.piece(0, 5), 1);
        Checks.due("no more deeds than told", x.deed(1, 0), SpeaksForTheChair.BAD);
        Checks.due("no more pieces than told", x.piece(2, 0), SpeaksForTheChair.BAD);
    }

    private static void piece() {
        Checks.promise("6 piece");
        SpeaksForTheChair x = new SpeaksForTheChair();
        for (int p : Checks.outside(0, 6)) {
            for (int what = 0; what <= 5; what++) {
                Checks.due("piece " + p + " " + what, x.piece(p, what), SpeaksForTheChair.BAD);
            }
        }
        for (int what : Checks.outside(0, 5)) {
            Checks.due("piece what " + what, x.piece(0, what), SpeaksForTheChair.BAD);
        }
        int[] tell = {19, 18, 12, 18, 4, 32, 0};
        for (int p = 0; p < tell.length; p++) {
            Checks.due("told by " + p, x.piece(p, 4), tell[p]);
        }
        x.speak(3);
        x.buy(0);
        x.carry(0, 1);
        Checks.due("spoken", x.piece(3, 3), 2);
        Checks.due("spoken is not loose", x.piece(3, 5), 0);
        Checks.due("spoken tells yet", x.piece(3, 4), 18);
        Checks.due("bought", x.piece(0, 3), 1);
        Checks.due("bought is not loose", x.piece(0, 5), 0);
        Checks.due("carried", x.piece(0, 1), 1);
        Checks.due("carried tells what is there", x.piece(0, 4), 12);
        Checks.due("price stays", x.piece(0, 2), 20);
        Checks.due("another is still", x.piece(1, 3), 0);
        Checks.due("another is loose", x.piece(1, 5), 1);
        SpeaksForTheChair law = Checks.laid("p0,0,1;p1,0,1;p2,0,1;p3,0,1;l1;l3;");
        for (int p = 0; p < 4; p++) {
            Checks.due("by law, " + p, law.piece(p, 5), 1 - p % 2);
        }
    }

    private static void tells() {
        SpeaksForTheChair x = Checks.laid("p0,2,0;p1,2,0;p2,2,0;p3,2,0;p0,3,0;"
            + "d0,2,11,10;d0,2,12,10;d0,2,11,11;d0,2,23,30;d0,2,0,1;d0,1,5,5;d0,2,12,1;");
        Checks.due("a table", x.piece(0, 4), 0b1011111);
        Checks.due("a wardrobe", x.piece(1, 4), 0b1001010);
        Checks.due("a sofa: of like hours the higher number", x.piece(2, 4), 0b1001000);
        Checks.due("a cradle", x.piece(3, 4), 0b0010001);
        Checks.due("nothing to tell", x.piece(4, 4), 0);
        SpeaksForTheChair few = Checks.laid("p2,0,0;p2,1,0;p2,2,0;d0,0,3,1;d0,1,7,1;d0,1,7,1;d0,1,7,1;");
        Checks.due("a sofa with one deed", few.piece(0, 4), 1);
        Checks.due("a sofa with like hours", few.piece(1, 4), 0b1100);
        Checks.due("a sofa with none", few.piece(2, 4), 0);
    }

    private static void deed() {
        Checks.promise("7 deed");
        SpeaksForTheChair x = new SpeaksForTheChair();
        for (int d : Checks.outside(0, 5)) {
            for (int what = 0; what <= 5; what++) {
                Checks.due("deed " + d + " " + what, x.deed(d, what), SpeaksForTheChair.BAD);
            }
        }
        for (int what : Checks.outside(0, 5)) {
            Checks.due("deed what " + what, x.deed(0, what), SpeaksForTheChair.BAD);
        }
        int[] tellers = {0, 10, 20, 4, 10, 0};
        for (int d = 0; d < tellers.length; d++) {
            Checks.due("loose tellers of " + d, x.deed(d, 5), tellers[d]);
        }
        x.speak(3);
        Checks.due("out", x.deed(4, 4), 1);
        Checks.due("not out", x.deed(0, 4), 0);
        Checks.due("tellers after one has spoken", x.deed(4, 5), 2);
        x.buy(1);
        Checks.due("tellers after the other is bought", x.deed(4, 5), 0);
        x.carry(2, 0);
        Checks.due("tellers after a sofa has come", x.deed(4, 5), 4);
        Checks.due("no deeds", Checks.laid("p0,0,0;").deed(0, 0), SpeaksForTheChair.BAD);
    }
}
