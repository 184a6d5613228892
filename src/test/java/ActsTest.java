/** Promises 8 to 11. */
public final class ActsTest {
    private ActsTest() {
    }

    public static void main(String[] args) {
        speak();
        buy();
        carry();
        undo();
        undoTheLastEight();
        Checks.end();
    }

    private static void badPieces(String call, int[] answers) {
        for (int answer : answers) {
            Checks.due(call + " of no piece", answer, SpeaksForTheChair.BAD);
        }
    }

    private static void speak() {
        Checks.promise("8 speak");
        SpeaksForTheChair x = new SpeaksForTheChair();
        String before = Checks.picture(x);
        badPieces("speak", new int[] {x.speak(-1), x.speak(7), x.speak(8), x.speak(Integer.MIN_VALUE),
            x.speak(Integer.MAX_VALUE)});
        Checks.due("speak against the law", x.speak(0), SpeaksForTheChair.NO);
        Checks.holds("nothing changed", before.equals(Checks.picture(x)));
        Checks.due("speak 3", x.speak(3), 2);
        Checks.due("out", x.count(6), 2);
        Checks.due("out 1", x.deed(1, 4), 1);
        Checks.due("out 4", x.deed(4, 4), 1);
        Checks.due("speak 1, which tells the same", x.speak(1), 0);
        Checks.due("speak 6, which tells nothing", x.speak(6), 0);
        Checks.due("speak again", x.speak(3), SpeaksForTheChair.NO);
        x.buy(4);
        Checks.due("speak bought", x.speak(4), SpeaksForTheChair.NO);
        Checks.due("acts", x.count(8), 4);
        SpeaksForTheChair y = Checks.laid("p0,0,0;p1,0,0;d0,0,5,1;d0,0,15,1;d0,0,16,1;");
        Checks.due("speak some", y.speak(1), 2);
        Checks.due("speak all: those that had not come out", y.speak(0), 1);
        Checks.due("all out", y.count(6), 3);
    }

    private static void buy() {
        Checks.promise("9 buy");
        SpeaksForTheChair x = new SpeaksForTheChair();
        badPieces("buy", new int[] {x.buy(-1), x.buy(7), x.buy(8), x.buy(Integer.MIN_VALUE),
            x.buy(Integer.MAX_VALUE)});
        Checks.due("buy what the law forbids to speak", x.buy(0), 20);
        Checks.due("buy again", x.buy(0), SpeaksForTheChair.NO);
        x.speak(4);
        Checks.due("buy spoken", x.buy(4), SpeaksForTheChair.NO);
        Checks.due("buy too dear", x.buy(5), SpeaksForTheChair.NO);
        Checks.due("coins stay", x.count(2), 20);
        Checks.due("it is still", x.piece(5, 3), 0);
        Checks.due("acts", x.count(8), 2);
        SpeaksForTheChair y = Checks.laid("p1,0,7;p1,0,1;p1,0,0;m7;");
        Checks.due("buy for all coins", y.buy(0), 0);
        Checks.due("buy without coins", y.buy(1), SpeaksForTheChair.NO);
        Checks.due("buy for nothing", y.buy(2), 0);
        Checks.due("bought", y.count(4), 2);
    }

    private static void carry() {
        Checks.promise("10 carry");
        SpeaksForTheChair x = new SpeaksForTheChair();
        x.speak(1);
        for (int p : Checks.outside(0, 6)) {
            Checks.due("carry " + p, x.carry(p, 3), SpeaksForTheChair.BAD);
        }
        for (int r : Checks.outside(0, 3)) {
            Checks.due("carry to " + r, x.carry(0, r), SpeaksForTheChair.BAD);
            Checks.due("carry a spoken one to " + r, x.carry(1, r), SpeaksForTheChair.BAD);
        }
        Checks.due("carry a spoken one", x.carry(1, 2), SpeaksForTheChair.NO);
        Checks.due("carry to where it is", x.carry(2, 1), SpeaksForTheChair.NO);
        Checks.due("carry", x.carry(2, 3), 1);
        Checks.due("carry back", x.carry(2, 1), 3);
        Checks.due("carry what the law forbids to speak", x.carry(5, 0), 2);
        Checks.due("it tells what is there", x.piece(5, 4), 19);
        x.buy(4);
        Checks.due("carry a bought one", x.carry(4, 0), 1);
        Checks.due("the neighbours stay", x.piece(3, 1) * 10 + x.piece(6, 1), 2);
        Checks.due("acts", x.count(8), 6);
    }

    private static void undo() {
        Checks.promise("11 undo");
        SpeaksForTheChair x = new SpeaksForTheChair();
        Checks.due("undo of nothing", x.undo(), SpeaksForTheChair.NO);
        String[] pictures = new String[5];
        pictures[0] = Checks.picture(x);
        x.speak(3);
        pictures[1] = Checks.picture(x);
        x.speak(1);
        pictures[2] = Checks.picture(x);
        x.buy(2);
        pictures[3] = Checks.picture(x);
        x.carry(2, 3);
        pictures[4] = Checks.picture(x);
        x.carry(0, 0);
        x.speak(0);
        x.buy(5);
        x.carry(9, 9);
        x.sale(4, 40, 0);
        Checks.holds("refused acts are none", pictures[4].equals(Checks.picture(x)));
        for (int left = 3; left >= 0; left--) {
            Checks.due("undo", x.undo(), left);
            Checks.holds("as it was before act " + left, pictures[left].equals(Checks.picture(x)));
        }
        Checks.due("undo of nothing more", x.undo(), SpeaksForTheChair.NO);
        Checks.holds("nothing changed", pictures[0].equals(Checks.picture(x)));
        x.buy(0);
        x.seen(0, 0, 1);
        x.write('p');
        Checks.due("undo", x.undo(), 0);
        Checks.due("the text stays", x.count(10), 1);
        Checks.due("what is seen stays", x.count(7), 1);
    }

    private static void undoTheLastEight() {
        SpeaksForTheChair x = new SpeaksForTheChair();
        for (int i = 0; i < 21; i++) {
            Checks.due("carry " + i, x.carry(0, (i + 1) % 4), i % 4);
            Checks.due("to be undone", x.count(8), Math.min(i + 1, 8));
        }
        for (int left = 7; left >= 0; left--) {
            Checks.due("undo", x.undo(), left);
            Checks.due("room", x.piece(0, 1), (13 + left) % 4);
        }
        Checks.due("undo the ninth", x.undo(), SpeaksForTheChair.NO);
        Checks.due("room", x.piece(0, 1), 13 % 4);
        x.carry(0, 3);
        Checks.due("undo after an act", x.undo(), 0);
        Checks.due("room", x.piece(0, 1), 1);
    }
}
