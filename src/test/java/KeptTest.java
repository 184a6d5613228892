/** Promises 26 to 28. */
public final class KeptTest {
    private KeptTest() {
    }

    public static void main(String[] args) {
        keep();
        back();
        backLeavesTextAndSeen();
        count();
        Checks.end();
    }

    private static void keep() {
        Checks.promise("26 keep");
        SpeaksForTheChair x = new SpeaksForTheChair();
        x.speak(1);
        Checks.due("keep", x.keep(), 1);
        Checks.due("an act can be undone yet", x.count(8), 1);
        Checks.due("keep", x.keep(), 2);
        Checks.due("keep", x.keep(), SpeaksForTheChair.FULL);
        Checks.due("kept", x.count(9), 2);
        Checks.due("undo", x.undo(), 0);
        Checks.due("kept yet", x.count(9), 2);
        x.back();
        Checks.due("there is room again", x.keep(), 2);
        Checks.due("full again", x.keep(), SpeaksForTheChair.FULL);
    }

    private static void back() {
        Checks.promise("27 back");
        SpeaksForTheChair x = new SpeaksForTheChair();
        Checks.due("back to nothing", x.back(), SpeaksForTheChair.NO);
        x.speak(3);
        x.buy(0);
        x.carry(6, 3);
        x.carry(5, 3);
        x.keep();
        x.undo();
        x.undo();
        String first = Checks.picture(x);
        x.buy(6);
        x.speak(2);
        x.keep();
        x.speak(1);
        x.carry(6, 1);
        Checks.due("back to the last", x.back(), 1);
        Checks.due("out", x.count(6), 4);
        Checks.due("coins", x.count(2), 15);
        Checks.due("room", x.piece(6, 1), 2);
        Checks.due("spoken", x.count(5), 2);
        Checks.due("bought", x.count(4), 2);
        Checks.due("nothing can be undone", x.undo(), SpeaksForTheChair.NO);
        Checks.due("nothing can be undone", x.count(8), 0);
        Checks.holds("another picture", !first.equals(Checks.picture(x)));
        Checks.due("back to the first", x.back(), 0);
        Checks.due("room of 6", x.piece(6, 1), 3);
        Checks.due("room of 5", x.piece(5, 1), 3);
        Checks.due("out", x.count(6), 2);
        Checks.due("coins", x.count(2), 20);
        Checks.due("loose", x.count(3), 4);
        Checks.due("back to nothing more", x.back(), SpeaksForTheChair.NO);
        x.speak(2);
        Checks.due("undo after back", x.undo(), 0);
    }

    private static void backLeavesTextAndSeen() {
        SpeaksForTheChair x = new SpeaksForTheChair();
        Checks.write(x, "p0");
        x.seen(0, 0, 1);
        x.keep();
        x.write(',');
        x.seen(1, 1, 1);
        Checks.due("back", x.back(), 0);
        Checks.due("the text is not kept", x.count(10), 3);
        Checks.due("what is seen is not kept", x.count(7), 2);
        SpeaksForTheChair full = Checks.laid("p0,3,60;".repeat(8) + "d0,3,0,1;".repeat(9) + "m99;");
        full.buy(0);
        full.speak(7);
        full.keep();
        full.carry(6, 0);
        full.speak(6);
        full.back();
        Checks.due("bought", full.piece(0, 3), 1);
        Checks.due("spoken", full.piece(7, 3), 2);
        Checks.due("still", full.piece(6, 3), 0);
        Checks.due("where it was", full.piece(6, 1), 3);
        Checks.due("out", full.count(6), 9);
        Checks.due("coins", full.count(2), 39);
    }

    private static void count() {
        Checks.promise("28 count");
        SpeaksForTheChair x = new SpeaksForTheChair();
        for (int what : Checks.outside(0, 10)) {
            Checks.due("count " + what, x.count(what), SpeaksForTheChair.BAD);
        }
        x.speak(2);
        x.speak(3);
        x.buy(1);
        x.seen(0, 0, 0);
        x.keep();
        Checks.write(x, "p3,3,3;p");
        int[] counts = {7, 6, 31, 2, 1, 2, 4, 1, 3, 1, 8};
        for (int what = 0; what < counts.length; what++) {
            Checks.due("count " + what, x.count(what), counts[what]);
        }
    }
}
