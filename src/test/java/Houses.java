import java.util.Arrays;

/** Houses for the tests of boundary cases, and a look at all that shows of one. */
final class Houses {
    /** As many pieces and deeds as there can be, and 200 letters, the last item among them. */
    static final String FULL_TEXT = "p0,0,0;".repeat(8) + "d0,0,0,1;".repeat(9) + "m5;".repeat(20) + "m7;";

    private static final String EIGHT = "p1,0,1;p3,0,2;p1,1,3;p3,1,4;p1,2,5;p3,2,6;p1,3,7;p3,3,8;"
        + "d0,0,12,1;d0,0,11,2;d1,1,12,3;d1,1,11,4;d2,2,12,5;d2,2,11,6;d3,3,12,7;d3,3,11,8;d5,3,11,30;";

    /** A text with valid items that the lived-in house has not laid. */
    static final String WRITTEN = "p1,1,1;d0,1,2,3;";

    private Houses() {
    }

    /**
     * Piece p, for p + 1 coins, tells deed p, that weighs p + 1, and no other; deed 8, that
     * weighs 30, none tells. Person 4 has done nothing. All pieces together cost 36.
     */
    static SpeaksForTheChair eight(int coins) {
        return Checks.laid(EIGHT + "m" + coins + ";");
    }

    /**
     * The first house: piece 3 has spoken, 1 and 4 are bought, 6 is carried to room 3, 0 the law
     * forbids to speak, and 5 is too dear; deeds 1 and 4 have come out, 28 coins are left; two
     * are seen, one is kept, four acts can be undone, and a text is written.
     */
    static SpeaksForTheChair livedIn() {
        return livedIn(WRITTEN);
    }

    static SpeaksForTheChair livedIn(String written) {
        SpeaksForTheChair x = new SpeaksForTheChair();
        x.speak(3);
        x.buy(4);
        x.keep();
        x.buy(1);
        x.carry(6, 3);
        x.seen(2, 2, 1);
        x.seen(6, 5, 0);
        Checks.write(x, written);
        return x;
    }

    static SpeaksForTheChair withFullText() {
        SpeaksForTheChair x = new SpeaksForTheChair();
        Checks.write(x, FULL_TEXT);
        return x;
    }

    static int[] counts(SpeaksForTheChair x) {
        int[] all = new int[11];
        Arrays.setAll(all, x::count);
        return all;
    }

    /**
     * All that shows of how it stands, what can be undone, what is kept and what is written: it
     * is all taken back for that, so the house is used up. Some 300 calls at most.
     */
    static String allOf(SpeaksForTheChair x) {
        StringBuilder all = new StringBuilder(Arrays.toString(counts(x)));
        int deeds = x.count(1);
        for (int d = 0; d < deeds; d++) {
            all.append(" may ").append(x.may(d, 0)).append(' ').append(x.may(d, 1));
            all.append(" told by ").append(x.deed(d, 5));
        }
        all.append(standing(x));
        for (int i = 0; i < 8; i++) {
            all.append("\nundo ").append(x.undo()).append(standing(x));
        }
        for (int i = 0; i < 2; i++) {
            all.append("\nback ").append(x.back()).append(standing(x));
        }
        all.append("\nfault ").append(x.fault()).append(" lay ").append(x.lay());
        return all.append(told(x)).toString();
    }

    private static String standing(SpeaksForTheChair x) {
        StringBuilder all = new StringBuilder();
        for (int what = 2; what <= 6; what++) {
            all.append(' ').append(x.count(what));
        }
        int pieces = x.count(0);
        for (int p = 0; p < pieces; p++) {
            all.append(" p").append(x.piece(p, 1));
        }
        return all.toString();
    }

    private static String told(SpeaksForTheChair x) {
        int[] counts = counts(x);
        StringBuilder all = new StringBuilder(Arrays.toString(counts));
        for (int p = 0; p < counts[0]; p++) {
            all.append(" p").append(x.piece(p, 0)).append(x.piece(p, 1)).append(x.piece(p, 2));
        }
        for (int d = 0; d < counts[1]; d++) {
            all.append(" d").append(x.deed(d, 0)).append(x.deed(d, 1)).append(x.deed(d, 2));
        }
        return all.toString();
    }
}
