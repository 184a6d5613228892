/** Boundary cases of promises 21 to 23. */
final class SeenEdges {
    private static final int BAD = SpeaksForTheChair.BAD, FULL = SpeaksForTheChair.FULL;
    private static final int ALL_HOURS = (1 << 24) - 1;
    private static final int BEFORE_NOON = (1 << 12) - 1;

    private SeenEdges() {
    }

    private static SpeaksForTheChair sixSeen() {
        SpeaksForTheChair x = Houses.livedIn();
        x.forget();
        for (int i = 0; i < 6; i++) {
            x.seen(i, i, i % 2);
        }
        return x;
    }

    private static void mayBe(String what, SpeaksForTheChair x, int d, int rooms, int hours) {
        Checks.due(what + ", rooms", x.may(d, 0), rooms);
        Checks.due(what + ", hours", x.may(d, 1), hours);
    }

    // ---- promise 21

    @Sentence(of = {21, 28}, words = "SEEN (6 at most) is that a PIECE TELLS a DEED")
    static void theSeventhIsNotSeen() {
        SpeaksForTheChair x = new SpeaksForTheChair();
        for (int i = 1; i <= 6; i++) {
            Checks.due("seen " + i, x.seen(i % 7, i % 6, 1), i);
            Checks.due("how many", x.count(7), i);
        }
        Checks.due("one more", x.seen(0, 0, 0), FULL);
        Checks.due("and once more", x.seen(6, 5, 1), FULL);
        Checks.due("six yet", x.count(7), 6);
        Checks.keepsAll("the seventh", SeenEdges::sixSeen, y -> y.seen(2, 2, 1), FULL);
        Checks.keepsAll("the seventh, seen already", SeenEdges::sixSeen, y -> y.seen(1, 1, 1), FULL);
        Checks.due("forget", x.forget(), 6);
        Checks.due("there is room again", x.seen(0, 0, 0), 1);
    }

    @Sentence(of = 21, words = "SEEN: how many. BAD; FULL.")
    static void theSameIsSeenAgain() {
        SpeaksForTheChair x = new SpeaksForTheChair();
        for (int i = 1; i <= 6; i++) {
            Checks.due("seen again, " + i, x.seen(1, 1, 1), i);
        }
        Checks.due("once more", x.seen(1, 1, 1), FULL);
        mayBe("seen six times", x, 1, 1, ALL_HOURS - BEFORE_NOON);
    }

    @Sentence(of = 21, words = "is that a PIECE TELLS a DEED, or does not (1, 0)")
    static void seenOfWhatThereIsNot() {
        for (int p : Checks.outside(0, 6)) {
            Checks.keepsAll("seen " + p, Houses::livedIn, x -> x.seen(p, 0, 1), BAD);
        }
        for (int d : Checks.outside(0, 5)) {
            Checks.keepsAll("seen of " + d, Houses::livedIn, x -> x.seen(0, d, 1), BAD);
        }
        for (int tells : Checks.outside(0, 1)) {
            Checks.keepsAll("seen as " + tells, Houses::livedIn, x -> x.seen(0, 0, tells), BAD);
        }
        Checks.due("the first of all", Houses.eight(0).seen(0, 0, 0), 1);
        Checks.due("the last of all", Houses.eight(0).seen(7, 8, 1), 1);
        Checks.due("a piece above eight", Houses.eight(0).seen(8, 8, 1), BAD);
        Checks.due("a deed above nine", Houses.eight(0).seen(7, 9, 1), BAD);
        Checks.due("above one piece", Checks.laid("p0,0,0;d0,0,0,1;").seen(1, 0, 1), BAD);
        Checks.due("above one deed", Checks.laid("p0,0,0;d0,0,0,1;").seen(0, 1, 1), BAD);
    }

    @Sentence(of = 21, words = "Of several the first in this order; nothing changes then.")
    static void badComesBeforeFull() {
        Checks.keepsAll("no piece, when six are seen", SeenEdges::sixSeen, x -> x.seen(7, 0, 1), BAD);
        Checks.keepsAll("no deed, when six are seen", SeenEdges::sixSeen, x -> x.seen(0, 6, 1), BAD);
        Checks.keepsAll("neither told nor not, when six are seen", SeenEdges::sixSeen, x -> x.seen(0, 0, 2), BAD);
    }

    // ---- promise 22

    @Sentence(of = 22, words = "Nothing is SEEN: how many were.")
    static void nothingOrSixAreForgotten() {
        Checks.due("nothing", new SpeaksForTheChair().forget(), 0);
        SpeaksForTheChair x = sixSeen();
        Checks.due("six", x.forget(), 6);
        Checks.due("nothing more", x.forget(), 0);
        Checks.due("none", x.count(7), 0);
        for (int d = 0; d < 6; d++) {
            mayBe("nothing is seen of " + d, x, d, 15, ALL_HOURS);
        }
        x.seen(6, 5, 0);
        Checks.due("one", x.forget(), 1);
        Checks.keepsAll("forget nothing", SpeaksForTheChair::new, SpeaksForTheChair::forget, 0);
    }

    // ---- promise 23

    @Sentence(of = 23, words = "ROOMS (what = 0), HOURS (1), as bits. BAD.")
    static void mayOfWhatThereIsNot() {
        for (int d : Checks.outside(0, 5)) {
            Checks.keepsAll("may " + d, Houses::livedIn, x -> x.may(d, 0), BAD);
        }
        for (int what : Checks.outside(0, 1)) {
            Checks.keepsAll("may what " + what, Houses::livedIn, x -> x.may(0, what), BAD);
        }
        Checks.due("the last of nine", Houses.eight(0).may(8, 0), 15);
        Checks.due("above nine", Houses.eight(0).may(9, 0), BAD);
        Checks.due("above one", Checks.laid("p0,0,0;d0,0,0,1;").may(1, 0), BAD);
    }

    @Sentence(of = 23, words = "ROOMS of a DEED: those (bits) such that, were it done there, all that is SEEN of it would be"
        + " so; HOURS (bits of 0 to 23) such that, were it done then.")
    static void allRoomsAndHoursOrNone() {
        SpeaksForTheChair x = Checks.laid("p0,0,0;p0,3,0;d0,0,0,1;d0,3,23,30;");
        mayBe("nothing seen", x, 0, 15, ALL_HOURS);
        mayBe("nothing seen of the last", x, 1, 15, ALL_HOURS);
        x.seen(0, 0, 1);
        mayBe("the first room", x, 0, 1, ALL_HOURS);
        mayBe("of the other nothing is seen", x, 1, 15, ALL_HOURS);
        x.seen(1, 1, 1);
        mayBe("the last room", x, 1, 8, ALL_HOURS);
        mayBe("of the first as before", x, 0, 1, ALL_HOURS);
        x.seen(0, 0, 0);
        mayBe("told and not", x, 0, 0, 0);
        mayBe("of the last as before", x, 1, 8, ALL_HOURS);
        x.forget();
        x.seen(0, 1, 0);
        x.seen(1, 1, 0);
        mayBe("in neither room", x, 1, 6, 0);
    }

    @Sentence(of = 23, words = "all that is SEEN of it would be so")
    static void theLastOfSixSeenCounts() {
        for (int odd = 0; odd < 6; odd++) {
            SpeaksForTheChair x = Checks.laid("p0,0,0;d0,0,0,1;");
            for (int i = 0; i < 6; i++) {
                x.seen(0, 0, i == odd ? 0 : 1);
            }
            mayBe("the one at " + odd + " is at odds", x, 0, 0, 0);
        }
    }

    @Sentence(of = 23, words = "HOURS (bits of 0 to 23) such that, were it done then.")
    static void theHoursFromMidnightToMidnight() {
        for (int hour : new int[] {0, 11, 12, 23}) {
            String deed = "d0,0," + hour + ",10;";
            SpeaksForTheChair late = Checks.laid("p1,0,0;" + deed);
            late.seen(0, 0, 1);
            mayBe("a wardrobe told what was done at " + hour, late, 0, hour >= 12 ? 1 : 0, ALL_HOURS - BEFORE_NOON);
            SpeaksForTheChair early = Checks.laid("p3,0,0;" + deed);
            early.seen(0, 0, 1);
            mayBe("a cradle told what was done at " + hour, early, 0, hour < 12 ? 1 : 0, BEFORE_NOON);
            early.seen(0, 0, 0);
            mayBe("and did not", early, 0, 0, 0);
        }
        SpeaksForTheChair heavy = Checks.laid("p3,0,0;d0,0,0,11;");
        heavy.seen(0, 0, 0);
        mayBe("too heavy for a cradle", heavy, 0, 15, ALL_HOURS);
    }

    @Sentence(of = 23, words = "of like HOURS the higher number is later")
    static void theHoursAtWhichASofaTells() {
        String others = "d0,0,23,1;d0,0,23,1;";
        SpeaksForTheChair last = Checks.laid("p2,0,0;" + others + "d0,0,0,1;");
        last.seen(0, 2, 1);
        mayBe("the highest number", last, 2, 0, 1 << 23);
        SpeaksForTheChair first = Checks.laid("p2,0,0;d0,0,0,1;" + others);
        first.seen(0, 0, 0);
        mayBe("the lowest number", first, 0, 15, ALL_HOURS);
        first.seen(0, 0, 1);
        mayBe("the lowest number, told and not", first, 0, 0, 0);
        SpeaksForTheChair low = Checks.laid("p2,0,0;d0,1,0,1;d0,0,0,1;d0,0,0,1;");
        low.seen(0, 0, 1);
        mayBe("from 1 on", low, 0, 0, 0);
        low.carry(0, 1);
        mayBe("alone", low, 0, 2, ALL_HOURS);
        SpeaksForTheChair among = Checks.laid("p2,0,0;d0,0,5,1;d0,0,0,1;d0,0,0,1;");
        among.seen(0, 0, 1);
        mayBe("later than one of two", among, 0, 1, ALL_HOURS - 1);
    }

    @Sentence(of = 23, words = "as it stands now (by how all stands when that is asked, not when it was SEEN)")
    static void asItStandsWhenAsked() {
        SpeaksForTheChair x = Checks.laid("p0,0,0;p1,0,0;d0,0,0,1;");
        x.seen(0, 0, 1);
        x.seen(1, 0, 0);
        mayBe("where the table is", x, 0, 1, BEFORE_NOON);
        x.carry(0, 3);
        mayBe("where the table is then", x, 0, 8, 0);
        x.undo();
        mayBe("undone", x, 0, 1, BEFORE_NOON);
        x.buy(0);
        mayBe("bought", x, 0, 1, BEFORE_NOON);
        x.speak(1);
        mayBe("spoken", x, 0, 1, BEFORE_NOON);
        x.keep();
        x.carry(0, 2);
        mayBe("carried again", x, 0, 4, 0);
        x.back();
        mayBe("back", x, 0, 1, BEFORE_NOON);
    }
}
