/** Promises 21 to 23. */
public final class SeenTest {
    private static final int BAD = SpeaksForTheChair.BAD;
    private static final int ALL_HOURS = (1 << 24) - 1;
    private static final int AFTERNOON = ALL_HOURS & ~((1 << 12) - 1);

    private SeenTest() {
    }

    public static void main(String[] args) {
        seen();
        forget();
        mayByKind();
        mayBySofa();
        mayAsItStands();
        Checks.end();
    }

    private static void seen() {
        Checks.promise("21 seen");
        SpeaksForTheChair x = new SpeaksForTheChair();
        for (int p : Checks.outside(0, 6)) {
            Checks.due("seen " + p, x.seen(p, 0, 1), BAD);
        }
        for (int d : Checks.outside(0, 5)) {
            Checks.due("seen of " + d, x.seen(0, d, 0), BAD);
        }
        for (int tells : Checks.outside(0, 1)) {
            Checks.due("seen as " + tells, x.seen(0, 0, tells), BAD);
        }
        Checks.due("none", x.count(7), 0);
        for (int i = 1; i <= 6; i++) {
            Checks.due("seen, the same again, too", x.seen(6, 5, i % 2), i);
        }
        Checks.due("one more", x.seen(0, 0, 0), SpeaksForTheChair.FULL);
        Checks.due("one more, bad", x.seen(0, 0, 2), BAD);
        Checks.due("six", x.count(7), 6);
        Checks.due("no deeds", Checks.laid("p0,0,0;").seen(0, 0, 0), BAD);
    }

    private static void forget() {
        Checks.promise("22 forget");
        SpeaksForTheChair x = new SpeaksForTheChair();
        Checks.due("forget nothing", x.forget(), 0);
        x.seen(1, 1, 0);
        x.seen(1, 2, 0);
        Checks.due("may", x.may(1, 0), 14);
        Checks.due("forget", x.forget(), 2);
        Checks.due("none", x.count(7), 0);
        Checks.due("may again", x.may(1, 0), 15);
        Checks.due("forget again", x.forget(), 0);
        Checks.due("seen again", x.seen(1, 1, 1), 1);
        Checks.due("may then", x.may(1, 0), 1);
    }

    private static int may(String text, int tells, int what) {
        SpeaksForTheChair x = Checks.laid(text);
        x.seen(0, 0, tells);
        return x.may(0, what);
    }

    private static void mayByKind() {
        Checks.promise("23 may");
        String[] deeds = {"d0,2,11,10;", "d0,2,11,11;", "d0,2,12,10;", "d0,1,12,10;"};
        int[][] roomsTold = {{4, 4, 4, 4}, {0, 0, 4, 4}, {4, 4, 4, 4}, {4, 0, 0, 0}};
        int[][] hoursTold = {{ALL_HOURS, ALL_HOURS, ALL_HOURS, 0}, {AFTERNOON, AFTERNOON, AFTERNOON, 0},
            {ALL_HOURS, ALL_HOURS, ALL_HOURS, 0}, {ALL_HOURS - AFTERNOON, 0, ALL_HOURS - AFTERNOON, 0}};
        for (int kind = 0; kind < 4; kind++) {
            for (int d = 0; d < deeds.length; d++) {
                String text = "p" + kind + ",2,0;" + deeds[d];
                Checks.due("rooms, told, " + text, may(text, 1, 0), roomsTold[kind][d]);
                Checks.due("rooms, not told, " + text, may(text, 0, 0), 15 - roomsTold[kind][d]);
                Checks.due("hours, told, " + text, may(text, 1, 1), hoursTold[kind][d]);
                Checks.due("hours, not told, " + text, may(text, 0, 1), ALL_HOURS - hoursTold[kind][d]);
            }
        }
        SpeaksForTheChair x = new SpeaksForTheChair();
        for (int d : Checks.outside(0, 5)) {
            Checks.due("may " + d, x.may(d, 0), BAD);
        }
        for (int what : Checks.outside(0, 1)) {
            Checks.due("may what " + what, x.may(0, what), BAD);
        }
        for (int d = 0; d < 6; d++) {
            Checks.due("nothing seen", x.may(d, 0), 15);
            Checks.due("nothing seen", x.may(d, 1), ALL_HOURS);
        }
    }

    private static void mayBySofa() {
        String house = "p2,0,0;d0,0,9,1;d0,0,9,1;d0,0,9,1;d0,1,9,1;";
        SpeaksForTheChair x = Checks.laid(house);
        int fromTen = ALL_HOURS & ~((1 << 10) - 1);
        int fromNine = ALL_HOURS & ~((1 << 9) - 1);
        for (int d = 0; d < 4; d++) {
            x.seen(0, d, 1);
        }
        Checks.due("rooms of the first of like hours", x.may(0, 0), 0);
        Checks.due("hours of the first", x.may(0, 1), fromTen);
        Checks.due("rooms of the second", x.may(1, 0), 1);
        Checks.due("hours of the second: later than the first of the others", x.may(1, 1), fromNine);
        Checks.due("hours of the third", x.may(2, 1), fromNine);
        Checks.due("rooms of one elsewhere", x.may(3, 0), 1);
        Checks.due("hours of one elsewhere", x.may(3, 1), 0);
    }

    private static void mayAsItStands() {
        SpeaksForTheChair x = new SpeaksForTheChair();
        x.seen(1, 1, 1);
        Checks.due("rooms", x.may(1, 0), 1);
        Checks.due("of another deed", x.may(0, 0), 15);
        x.carry(1, 3);
        Checks.due("rooms, as it stands when asked", x.may(1, 0), 8);
        Checks.due("hours, as it stands when asked", x.may(1, 1), 0);
        x.buy(1);
        Checks.due("a bought one tells, too", x.may(1, 0), 8);
        x.seen(2, 1, 1);
        Checks.due("all that is seen", x.may(1, 0), 0);
        x.undo();
        x.undo();
        x.forget();
        x.speak(1);
        x.seen(1, 1, 1);
        x.seen(0, 1, 1);
        Checks.due("a spoken one, and one that must not speak", x.may(1, 0), 1);
        x.seen(3, 1, 0);
        Checks.due("the two at odds", x.may(1, 0), 0);
        Checks.due("the sofa tells it at 9 or later, of the higher number than the first", x.may(1, 1), 0);
        x.forget();
        x.seen(3, 1, 0);
        Checks.due("before 9 the sofa does not tell it", x.may(1, 1), (1 << 9) - 1);
        Checks.due("by the room", x.may(1, 0), 14);
    }
}
