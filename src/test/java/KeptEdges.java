import java.util.Arrays;

/** Boundary cases of promises 26 to 28. */
final class KeptEdges {
    private static final int BAD = SpeaksForTheChair.BAD, NO = SpeaksForTheChair.NO, FULL = SpeaksForTheChair.FULL;

    private KeptEdges() {
    }

    private static SpeaksForTheChair twiceKept() {
        SpeaksForTheChair x = Houses.livedIn();
        x.keep();
        x.carry(6, 0);
        return x;
    }

    // ---- promise 26

    @Sentence(of = {26, 28}, words = "KEPT is all as it stands, but THE TEXT and what is SEEN: 2 at most.")
    static void theThirdIsNotKept() {
        SpeaksForTheChair x = new SpeaksForTheChair();
        Checks.due("the first", x.keep(), 1);
        Checks.due("one is kept", x.count(9), 1);
        Checks.due("the second", x.keep(), 2);
        Checks.due("two are kept", x.count(9), 2);
        Checks.due("the third", x.keep(), FULL);
        Checks.due("and once more", x.keep(), FULL);
        Checks.due("two are kept yet", x.count(9), 2);
        Checks.keepsAll("the third", KeptEdges::twiceKept, SpeaksForTheChair::keep, FULL);
        x.back();
        Checks.due("there is room again", x.keep(), 2);
        Checks.due("and no more", x.keep(), FULL);
        x.back();
        x.back();
        Checks.due("there is room for two", x.keep() * 10 + x.keep(), 12);
        Checks.due("and for no third", x.keep(), FULL);
    }

    @Sentence(of = 26, words = "KEPT: how many. FULL.")
    static void keepingChangesNothingElse() {
        SpeaksForTheChair x = Houses.livedIn();
        int[] before = Houses.counts(x);
        Checks.due("keep", x.keep(), 2);
        int[] after = Houses.counts(x);
        before[9] = 2;
        Checks.holds("only what is kept is one more", Arrays.equals(before, after));
        Checks.due("undo is as it was", x.undo(), 3);
        Checks.due("carried back", x.piece(6, 1), 2);
        Checks.due("back", x.back(), 1);
        Checks.due("what is kept was not undone", x.piece(6, 1), 3);
    }

    // ---- promise 27

    @Sentence(of = 27, words = "As KEPT last (it is KEPT no more then): how many are left; nothing is UNDONE then. NO.")
    static void backToNothing() {
        Checks.keepsAll("back", SpeaksForTheChair::new, SpeaksForTheChair::back, NO);
        SpeaksForTheChair x = new SpeaksForTheChair();
        x.keep();
        x.buy(6);
        Checks.due("back to the one", x.back(), 0);
        Checks.due("coins", x.count(2), 40);
        x.buy(4);
        Checks.due("back to nothing", x.back(), NO);
        Checks.due("coins stay", x.count(2), 37);
        Checks.due("undo stays", x.count(8), 1);
        Checks.due("undo", x.undo(), 0);
    }

    @Sentence(of = 27, words = "As KEPT last (it is KEPT no more then): how many are left; nothing is UNDONE then. NO.")
    static void theLastKeptComesBackFirst() {
        SpeaksForTheChair x = Houses.eight(99);
        x.speak(7);
        x.keep();
        x.buy(0);
        x.carry(0, 3);
        x.keep();
        x.speak(1);
        x.buy(2);
        Checks.due("the last", x.back(), 1);
        int[] last = {8, 9, 98, 6, 1, 1, 1, 0, 0, 1};
        for (int what = 0; what <= 9; what++) {
            Checks.due("count " + what + " of the last", x.count(what), last[what]);
        }
        Checks.due("carried", x.piece(0, 1), 3);
        Checks.due("nothing is undone", x.undo(), NO);
        x.speak(3);
        Checks.due("the first", x.back(), 0);
        int[] first = {8, 9, 99, 7, 0, 1, 1, 0, 0, 0};
        for (int what = 0; what <= 9; what++) {
            Checks.due("count " + what + " of the first", x.count(what), first[what]);
        }
        Checks.due("not carried", x.piece(0, 1), 0);
        Checks.due("nothing is undone then", x.undo(), NO);
        Checks.due("no more", x.back(), NO);
    }

    @Sentence(of = 27, words = "KEPT is all as it stands, but THE TEXT and what is SEEN")
    static void textAndSeenAreNotKept() {
        SpeaksForTheChair x = Houses.livedIn("m1;");
        x.wipe();
        x.forget();
        Checks.due("back", x.back(), 0);
        Checks.due("the text is empty yet", x.count(10), 0);
        Checks.due("nothing is seen yet", x.count(7), 0);
        x.keep();
        Checks.write(x, Houses.WRITTEN);
        for (int i = 0; i < 6; i++) {
            x.seen(i, i, 1);
        }
        Checks.due("back again", x.back(), 0);
        Checks.due("the text is written yet", x.count(10), Houses.WRITTEN.length());
        Checks.due("six are seen yet", x.seen(0, 0, 0), FULL);
        Checks.due("it can be laid", x.lay(), 1);
    }

    @Sentence(of = {5, 26, 27}, words = "KEPT is all as it stands")
    static void allThatCanStandIsKept() {
        SpeaksForTheChair full = Checks.laid("p0,3,0;".repeat(8) + "d5,3,23,30;".repeat(9) + "m99;");
        for (int p = 0; p < 7; p += 2) {
            full.buy(p);
            full.speak(p + 1);
        }
        full.keep();
        int[] before = Houses.counts(full);
        SpeaksForTheChair twin = Checks.laid("p0,3,0;".repeat(8) + "d5,3,23,30;".repeat(9) + "m99;");
        Checks.due("nothing stands so in a new one", twin.count(6), 0);
        full.carry(0, 0);
        Checks.due("back", full.back(), 0);
        int[] after = Houses.counts(full);
        before[8] = 0;
        before[9] = 0;
        Checks.holds("all nine out, four bought, four spoken", Arrays.equals(before, after));
        for (int p = 0; p < 8; p++) {
            Checks.due("how it is with " + p, full.piece(p, 3), 1 + p % 2);
            Checks.due("room of " + p, full.piece(p, 1), 3);
        }
        Checks.due("ruin", full.ruin(5), 270);
        SpeaksForTheChair bare = Checks.laid("p0,0,0;m0;");
        bare.keep();
        bare.buy(0);
        Checks.due("back to a bare house", bare.back(), 0);
        Checks.due("coins", bare.count(2), 0);
        Checks.due("still", bare.piece(0, 3), 0);
    }

    // ---- promise 28

    @Sentence(of = 28, words = "How many: 0 PIECES, 1 DEEDS, 2 COINS, 3 LOOSE, 4 BOUGHT, 5 SPOKEN, 6 DEEDS that have COME OUT,"
        + " 7 SEEN, 8 that can be UNDONE, 9 KEPT, 10 letters of THE TEXT. BAD.")
    static void elevenThingsAreCounted() {
        int[] wanted = {7, 6, 28, 2, 2, 1, 2, 2, 4, 1, Houses.WRITTEN.length()};
        for (int what = 0; what <= 10; what++) {
            int one = what;
            Checks.keepsAll("count " + what, Houses::livedIn, x -> x.count(one), wanted[one]);
        }
        for (int what : Checks.outside(0, 10)) {
            Checks.keepsAll("count " + what, Houses::livedIn, x -> x.count(what), BAD);
        }
    }

    private static void countsAre(String when, SpeaksForTheChair x, int... wanted) {
        for (int what = 0; what < wanted.length; what++) {
            Checks.due("count " + what + ", " + when, x.count(what), wanted[what]);
        }
    }

    @Sentence(of = 28, words = "How many: 0 PIECES, 1 DEEDS, 2 COINS, 3 LOOSE, 4 BOUGHT, 5 SPOKEN, 6 DEEDS that have COME OUT")
    static void theLeastAndTheMostOfEach() {
        SpeaksForTheChair least = Checks.laid("p0,0,0;m0;l0;");
        least.wipe();
        countsAre("the least", least, 1, 0, 0, 0, 0, 0, 0, 0, 0, 0, 0);
        String text = "p0,0,0;".repeat(8) + "d0,0,0,1;".repeat(9) + "m99;";
        countsAre("the most", Checks.laid(text), 8, 9, 99, 8, 0, 0, 0, 0, 0, 0, text.length());
        SpeaksForTheChair bought = Checks.laid(text);
        for (int p = 0; p < 8; p++) {
            bought.buy(p);
        }
        countsAre("all bought", bought, 8, 9, 99, 0, 8, 0, 0, 0, 8, 0);
        SpeaksForTheChair spoken = Checks.laid(text);
        for (int p = 7; p >= 0; p--) {
            spoken.speak(p);
        }
        spoken.keep();
        spoken.keep();
        for (int i = 0; i < 7; i++) {
            spoken.seen(7, 8, 1);
        }
        countsAre("all spoken", spoken, 8, 9, 99, 0, 0, 8, 9, 6, 8, 2);
    }
}
