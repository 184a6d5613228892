/** Boundary cases of promises 6 and 7: what a piece tells, what is loose, how it all stands. */
final class PieceEdges {
    private static final int BAD = SpeaksForTheChair.BAD;

    private PieceEdges() {
    }

    /** What a piece of the kind, in room 0, tells of the deeds. */
    private static int told(int kind, String deeds) {
        return Checks.laid("p" + kind + ",0,0;" + deeds).piece(0, 4);
    }

    // ---- promise 6

    @Sentence(of = 6, words = "Of a PIECE: KIND (what = 0), ROOM (1), price (2), how it is (3), what it TELLS now, as"
        + " bits (4), 1 if it is LOOSE (5). BAD.")
    static void sixThingsCanBeAskedOfAPiece() {
        SpeaksForTheChair x = Checks.laid("p2,3,59;d0,3,0,1;");
        int[] answers = {2, 3, 59, 0, 1, 1};
        for (int what = 0; what <= 5; what++) {
            Checks.due("what " + what, x.piece(0, what), answers[what]);
        }
        for (int what : Checks.outside(0, 5)) {
            Checks.keepsAll("piece 0 what " + what, Houses::livedIn, y -> y.piece(0, what), BAD);
        }
    }

    @Sentence(of = 6, words = "(PIECES, DEEDS, PERSONS: such as there are, PERSONS 0 to 5)")
    static void onlyPiecesThatThereAreAreAsked() {
        SpeaksForTheChair one = Checks.laid("p1,2,9;");
        Checks.due("the one", one.piece(0, 2), 9);
        Checks.due("above the one", one.piece(1, 2), BAD);
        Checks.due("below the one", one.piece(-1, 2), BAD);
        SpeaksForTheChair eight = Houses.eight(0);
        Checks.due("the first of eight", eight.piece(0, 2), 1);
        Checks.due("the last of eight", eight.piece(7, 2), 8);
        Checks.due("above eight", eight.piece(8, 2), BAD);
        for (int p : Checks.outside(0, 6)) {
            Checks.keepsAll("piece " + p, Houses::livedIn, x -> x.piece(p, 4), BAD);
        }
    }

    @Sentence(of = {4, 5, 6}, words = "a PIECE of KIND K (0 TABLE, 1 WARDROBE, 2 SOFA, 3 CRADLE), in ROOM R (0 to 3),"
        + " that costs C (0 to 60)")
    static void theLeastAndTheGreatestAreKept() {
        SpeaksForTheChair x = Checks.laid("p0,0,0;p3,3,60;p0,0,0;p03,00,09;p3,3,60;p0,3,60;p3,0,0;p3,3,60;");
        int[][] pieces = {{0, 0, 0}, {3, 3, 60}, {0, 0, 0}, {3, 0, 9}, {3, 3, 60}, {0, 3, 60}, {3, 0, 0}, {3, 3, 60}};
        for (int p = 0; p < 8; p++) {
            for (int what = 0; what < 3; what++) {
                Checks.due("piece " + p + " " + what, x.piece(p, what), pieces[p][what]);
            }
        }
    }

    @Sentence(of = 6, words = "a TABLE all of them")
    static void aTableTellsNoneOrAllNine() {
        Checks.due("no deed", told(0, ""), 0);
        Checks.due("the least deed", told(0, "d0,0,0,1;"), 1);
        Checks.due("the greatest deed", told(0, "d5,0,23,30;"), 1);
        Checks.due("nine", told(0, "d0,0,0,1;d5,0,23,30;d0,0,11,10;d0,0,11,11;d0,0,12,10;d0,0,12,11;d1,0,0,30;"
            + "d2,0,23,1;d3,0,9,9;"), 511);
    }

    @Sentence(of = 6, words = "What a PIECE TELLS are DEEDS in its ROOM")
    static void whatIsDoneInTheNextRoomIsNotTold() {
        String deeds = "d0,0,13,1;d0,1,13,2;d0,2,13,3;d0,3,13,4;d0,0,3,1;d0,1,3,2;d0,2,3,3;d0,3,3,4;";
        for (int room = 0; room <= 3; room++) {
            int late = 1 << room;
            int early = 16 << room;
            Checks.due("table", Checks.laid("p0," + room + ",0;" + deeds).piece(0, 4), late | early);
            Checks.due("wardrobe", Checks.laid("p1," + room + ",0;" + deeds).piece(0, 4), late);
            Checks.due("sofa", Checks.laid("p2," + room + ",0;" + deeds).piece(0, 4), late | early);
            Checks.due("cradle", Checks.laid("p3," + room + ",0;" + deeds).piece(0, 4), early);
        }
    }

    @Sentence(of = 6, words = "a WARDROBE those at HOURS 12 or later")
    static void aWardrobeTellsFrom12On() {
        for (int hour = 0; hour <= 23; hour++) {
            Checks.due("at " + hour, told(1, "d0,0," + hour + ",1;"), hour >= 12 ? 1 : 0);
            Checks.due("heavy, at " + hour, told(1, "d0,0," + hour + ",30;"), hour >= 12 ? 1 : 0);
        }
        Checks.due("no deed", told(1, ""), 0);
        Checks.due("nine", told(1, "d0,0,12,1;".repeat(9)), 511);
    }

    @Sentence(of = 6, words = "a SOFA the two latest (of like HOURS the higher number is later; one, if there is one)")
    static void aSofaTellsTwoOfThree() {
        Checks.due("none", told(2, ""), 0);
        Checks.due("none in its room", told(2, "d0,1,5,1;d0,2,5,1;"), 0);
        Checks.due("one", told(2, "d0,0,0,1;"), 1);
        Checks.due("one in its room", told(2, "d0,1,5,1;d0,0,0,30;d0,2,5,1;"), 2);
        Checks.due("two", told(2, "d0,0,23,1;d0,0,0,30;"), 3);
        Checks.due("three, the first earliest", told(2, "d0,0,4,1;d0,0,5,1;d0,0,6,1;"), 6);
        Checks.due("three, the second earliest", told(2, "d0,0,5,1;d0,0,4,1;d0,0,6,1;"), 5);
        Checks.due("three, the last earliest", told(2, "d0,0,6,1;d0,0,5,1;d0,0,4,1;"), 3);
        Checks.due("nine", told(2, "d0,0,8,1;d0,0,7,1;d0,0,6,1;d0,0,5,1;d0,0,9,1;d0,0,3,1;d0,0,2,1;d0,0,1,1;"
            + "d0,0,0,1;"), 0b10001);
    }

    @Sentence(of = 6, words = "of like HOURS the higher number is later")
    static void ofLikeHoursTheHigherNumberIsLater() {
        Checks.due("two alike", told(2, "d0,0,7,1;d0,0,7,1;"), 3);
        Checks.due("three alike", told(2, "d0,0,7,1;d0,0,7,1;d0,0,7,1;"), 6);
        Checks.due("nine alike", told(2, "d0,0,7,1;".repeat(9)), 0b110000000);
        Checks.due("two alike behind a later one", told(2, "d0,0,8,1;d0,0,7,1;d0,0,7,1;"), 0b101);
        Checks.due("two alike before a later one", told(2, "d0,0,7,1;d0,0,7,1;d0,0,8,1;"), 0b110);
        Checks.due("two alike that are later", told(2, "d0,0,7,1;d0,0,6,1;d0,0,7,1;"), 0b101);
        Checks.due("alike in another room", told(2, "d0,0,7,1;d0,0,7,1;d0,1,7,1;d0,2,9,1;"), 0b11);
    }

    @Sentence(of = 6, words = "a CRADLE of those that a WARDROBE would not TELL all that WEIGH 10 or less")
    static void aCradleTellsUpTo11OClockAndWeight10() {
        for (int hour = 0; hour <= 23; hour++) {
            for (int weight : new int[] {1, 9, 10, 11, 30}) {
                Checks.due("at " + hour + ", weighing " + weight, told(3, "d0,0," + hour + "," + weight + ";"),
                    hour < 12 && weight <= 10 ? 1 : 0);
            }
        }
        Checks.due("no deed", told(3, ""), 0);
        Checks.due("nine", told(3, "d0,0,11,10;".repeat(9)), 511);
    }

    @Sentence(of = 6, words = "A PIECE is STILL (0), BOUGHT (1) or has SPOKEN (2), at first STILL.")
    static void aPieceIsStillBoughtOrHasSpoken() {
        SpeaksForTheChair x = Houses.eight(36);
        for (int p = 0; p < 8; p++) {
            Checks.due("at first, " + p, x.piece(p, 3), 0);
        }
        x.buy(0);
        x.speak(7);
        x.speak(3);
        x.buy(4);
        int[] how = {1, 0, 0, 2, 1, 0, 0, 2};
        for (int p = 0; p < 8; p++) {
            Checks.due("then, " + p, x.piece(p, 3), how[p]);
            Checks.due("loose, " + p, x.piece(p, 5), how[p] == 0 ? 1 : 0);
        }
    }

    @Sentence(of = {6, 28}, words = "LOOSE are PIECES that are STILL and that the LAW does not forbid to speak.")
    static void theLawForbidsNoneOneOrAllKinds() {
        String pieces = "p0,0,0;p1,0,0;p2,0,0;p3,0,0;";
        for (int laws = 0; laws < 16; laws++) {
            StringBuilder text = new StringBuilder(pieces);
            for (int kind = 0; kind < 4; kind++) {
                text.append((laws >> kind & 1) == 1 ? "l" + kind + ";" : "");
            }
            SpeaksForTheChair x = Checks.laid(text.toString());
            for (int kind = 0; kind < 4; kind++) {
                Checks.due("kind " + kind + " by laws " + laws, x.piece(kind, 5), 1 - (laws >> kind & 1));
            }
            Checks.due("how many by laws " + laws, x.count(3), 4 - Integer.bitCount(laws));
        }
    }

    // ---- promise 7

    @Sentence(of = 7, words = "Of a DEED: PERSON (what = 0), ROOM (1), HOUR (2), how it WEIGHS (3), 1 if it has COME OUT"
        + " (4), LOOSE PIECES that TELL it, as bits (5). BAD.")
    static void sixThingsCanBeAskedOfADeed() {
        SpeaksForTheChair x = Checks.laid("p0,1,5;p0,3,5;d4,3,22,29;");
        int[] answers = {4, 3, 22, 29, 0, 2};
        for (int what = 0; what <= 5; what++) {
            Checks.due("what " + what, x.deed(0, what), answers[what]);
        }
        x.speak(1);
        Checks.due("come out", x.deed(0, 4), 1);
        Checks.due("none loose that tells it", x.deed(0, 5), 0);
        for (int what : Checks.outside(0, 5)) {
            Checks.keepsAll("deed 0 what " + what, Houses::livedIn, y -> y.deed(0, what), BAD);
        }
    }

    @Sentence(of = 7, words = "(PIECES, DEEDS, PERSONS: such as there are, PERSONS 0 to 5)")
    static void onlyDeedsThatThereAreAreAsked() {
        SpeaksForTheChair one = Checks.laid("p1,2,9;d0,0,0,7;");
        Checks.due("the one", one.deed(0, 3), 7);
        Checks.due("above the one", one.deed(1, 3), BAD);
        Checks.due("below the one", one.deed(-1, 3), BAD);
        Checks.due("none", Checks.laid("p1,2,9;").deed(0, 3), BAD);
        SpeaksForTheChair nine = Houses.eight(0);
        Checks.due("the first of nine", nine.deed(0, 3), 1);
        Checks.due("the last of nine", nine.deed(8, 3), 30);
        Checks.due("above nine", nine.deed(9, 3), BAD);
        for (int d : Checks.outside(0, 5)) {
            Checks.keepsAll("deed " + d, Houses::livedIn, x -> x.deed(d, 4), BAD);
        }
    }

    @Sentence(of = {4, 5, 7}, words = "a DEED of PERSON P (0 to 5), in ROOM R (0 to 3), at HOUR T (0 to 23), that WEIGHS"
        + " W (1 to 30)")
    static void theLeastAndTheGreatestDeedAreKept() {
        SpeaksForTheChair x = Checks.laid("p0,0,0;d0,0,0,1;d5,3,23,30;d05,00,23,01;d0,3,0,30;");
        int[][] deeds = {{0, 0, 0, 1}, {5, 3, 23, 30}, {5, 0, 23, 1}, {0, 3, 0, 30}};
        for (int d = 0; d < deeds.length; d++) {
            for (int what = 0; what < 4; what++) {
                Checks.due("deed " + d + " " + what, x.deed(d, what), deeds[d][what]);
            }
        }
    }

    @Sentence(of = 7, words = "LOOSE PIECES that TELL it, as bits (5)")
    static void noneOrAllEightTellADeed() {
        SpeaksForTheChair x = Checks.laid("p0,0,0;".repeat(8) + "d0,0,0,1;d0,1,0,1;");
        Checks.due("all eight", x.deed(0, 5), 255);
        Checks.due("none", x.deed(1, 5), 0);
        x.carry(7, 1);
        Checks.due("all but the last", x.deed(0, 5), 127);
        Checks.due("the last alone", x.deed(1, 5), 128);
        x.buy(0);
        Checks.due("all but the first and the last", x.deed(0, 5), 126);
        x.speak(1);
        Checks.due("come out: those that tell it yet", x.deed(0, 5), 124);
    }
}
