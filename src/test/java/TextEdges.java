/** Boundary cases of "What it is" and of promises 1 to 5. */
final class TextEdges {
    private static final int BAD = SpeaksForTheChair.BAD, NO = SpeaksForTheChair.NO;
    private static final int FULL = SpeaksForTheChair.FULL, NONE = SpeaksForTheChair.NONE;
    private static final String ANY_PIECE = "p0,0,0;";

    private TextEdges() {
    }

    private static void faultIs(String text, int want) {
        SpeaksForTheChair x = new SpeaksForTheChair();
        Checks.write(x, text);
        Checks.due("fault of \"" + text + "\"", x.fault(), want);
    }

    /** Alone the item is where the text begins, behind others where they end. */
    private static void isItem(String item) {
        faultIs(item, NONE);
        faultIs("m1;" + item + "l2;", NONE);
    }

    private static void isNoItem(String item) {
        faultIs(item, 0);
        faultIs("m1;" + item + "l2;", 3);
    }

    /** The item with one number put in for the #. */
    private static void takes(String item, int least, int greatest) {
        for (int number = least; number <= greatest; number++) {
            isItem(item.replace("#", Integer.toString(number)));
        }
        for (int number = 0; number < least; number++) {
            isNoItem(item.replace("#", Integer.toString(number)));
        }
        for (int number = greatest + 1; number <= 99; number++) {
            isNoItem(item.replace("#", Integer.toString(number)));
        }
        isNoItem(item.replace("#", "100"));
        isNoItem(item.replace("#", "-1"));
    }

    // ---- promise 1

    @Sentence(of = 1, words = "As told; THE TEXT is empty.")
    static void aNewObjectsTextIsEmpty() {
        Checks.due("letters", new SpeaksForTheChair().count(10), 0);
        Checks.due("wiped", new SpeaksForTheChair().wipe(), 0);
        Checks.due("fault", new SpeaksForTheChair().fault(), NONE);
        Checks.due("lay", new SpeaksForTheChair().lay(), NO);
        Checks.due("first letter", new SpeaksForTheChair().write('p'), 1);
    }

    @Sentence(of = 1, words = "at first p0,0,20;p1,0,9;p2,1,12;p2,0,7;p3,1,3;p0,2,30;p1,2,5;"
        + "d0,0,9,4;d1,0,22,15;d0,1,3,8;d2,1,14,20;d1,0,13,6;d3,2,7,11;m40;l0;")
    static void aNewObjectIsLaidAsTold() {
        SpeaksForTheChair told = Checks.laid("p0,0,20;p1,0,9;p2,1,12;p2,0,7;p3,1,3;p0,2,30;p1,2,5;"
            + "d0,0,9,4;d1,0,22,15;d0,1,3,8;d2,1,14,20;d1,0,13,6;d3,2,7,11;m40;l0;");
        told.wipe();
        Checks.holds("as one laid by that text", Houses.allOf(told).equals(Houses.allOf(new SpeaksForTheChair())));
    }

    @Sentence(of = {1, 10, 28}, words = "An object is used for at most 512 calls after it has been made")
    static void theLastOf512CallsIsAnswered() {
        SpeaksForTheChair x = new SpeaksForTheChair();
        for (int i = 1; i < 512; i++) {
            Checks.due("call " + i, x.carry(0, i % 4), (i - 1) % 4);
        }
        Checks.due("call 512", x.piece(0, 1), 511 % 4);
        SpeaksForTheChair y = new SpeaksForTheChair();
        for (int i = 1; i < 512; i++) {
            Checks.due("letter " + i, y.write('m'), i <= 200 ? i : FULL);
        }
        Checks.due("call 512 after letters", y.count(10), 200);
        SpeaksForTheChair z = Checks.laid(ANY_PIECE);
        for (int i = 9; i < 512; i++) {
            Checks.due("lay " + i, z.lay(), 1);
        }
        Checks.due("call 512 after many a lay", z.count(0), 1);
    }

    // ---- promise 2

    @Sentence(of = 2, words = "A letter (32 to 126, as in ASCII) comes behind THE TEXT: how long it is.")
    static void eachLetterOfAsciiIsTaken() {
        SpeaksForTheChair x = new SpeaksForTheChair();
        for (int letter = 32; letter <= 126; letter++) {
            Checks.due("write " + letter, x.write(letter), letter - 31);
        }
        Checks.due("the least alone", new SpeaksForTheChair().write(32), 1);
        Checks.due("the greatest alone", new SpeaksForTheChair().write(126), 1);
    }

    @Sentence(of = 2, words = "A letter (32 to 126, as in ASCII) comes behind THE TEXT: how long it is. BAD; FULL.")
    static void anyOtherLetterIsBad() {
        int p = 'p';
        int[] others = {31, 127, 0, -1, 10, 128, 255, 256 + p, 65536 + p, p - 65536, -p, Integer.MIN_VALUE,
            Integer.MIN_VALUE + p, Integer.MAX_VALUE};
        for (int letter : others) {
            Checks.keepsAll("write " + letter, Houses::livedIn, x -> x.write(letter), BAD);
        }
    }

    @Sentence(of = {2, 28}, words = "A TEXT is letters (200 at most)")
    static void theLetter200IsTheLast() {
        SpeaksForTheChair x = new SpeaksForTheChair();
        for (int i = 1; i <= 198; i++) {
            x.write('m');
        }
        Checks.due("one below", x.write('m'), 199);
        Checks.due("the last", x.write('m'), 200);
        Checks.due("one above", x.write('m'), FULL);
        Checks.due("and once more", x.write('m'), FULL);
        Checks.due("letters", x.count(10), 200);
        Checks.keepsAll("one above 200", Houses::withFullText, y -> y.write('0'), FULL);
        Checks.keepsAll("one above 200, that would be awry", Houses::withFullText, y -> y.write(' '), FULL);
    }

    @Sentence(of = {2, 4, 5}, words = "A TEXT is letters (200 at most)")
    static void allOf200LettersAreRead() {
        SpeaksForTheChair x = Houses.withFullText();
        Checks.due("letters", x.count(10), 200);
        Checks.due("fault", x.fault(), NONE);
        Checks.due("lay", x.lay(), 8);
        Checks.due("coins, by the last three letters", x.count(2), 7);
        faultIs("m5;".repeat(66) + "m5", 198);
        faultIs(ANY_PIECE + "m5;".repeat(64) + "m", 199);
        faultIs("m5;".repeat(64) + "d0,0,0,1", 192);
    }

    @Sentence(of = 2, words = "Of several the first in this order; nothing changes then.")
    static void aBadLetterIsBadWhenTheTextIsFull() {
        Checks.keepsAll("31 in a full text", Houses::withFullText, x -> x.write(31), BAD);
        Checks.keepsAll("127 in a full text", Houses::withFullText, x -> x.write(127), BAD);
    }

    // ---- promise 3

    @Sentence(of = 3, words = "THE TEXT is empty: how long it was.")
    static void anEmptyAndAFullTextAreWiped() {
        SpeaksForTheChair x = new SpeaksForTheChair();
        Checks.due("empty", x.wipe(), 0);
        Checks.due("empty again", x.wipe(), 0);
        x.write('p');
        Checks.due("one letter", x.wipe(), 1);
        Checks.due("wiped already", x.wipe(), 0);
        SpeaksForTheChair full = Houses.withFullText();
        full.write('m');
        Checks.due("200 letters", full.wipe(), 200);
        Checks.due("letters left", full.count(10), 0);
        Checks.due("lay", full.lay(), NO);
        Checks.due("there is room again", full.write('p'), 1);
        Checks.due("none of the old letters is read", full.fault(), 0);
    }

    @Sentence(of = 3, words = "THE TEXT is empty: how long it was.")
    static void aWipeOfAnEmptyTextChangesNothing() {
        Checks.keepsAll("wipe", () -> Houses.livedIn(""), SpeaksForTheChair::wipe, 0);
    }

    // ---- promise 4

    @Sentence(of = 4, words = "FAULT: the place (from 0 on) of the first letter of the first ITEM that is not so.")
    static void theFaultIsWhereTheFirstFaultyItemBegins() {
        faultIs("x", 0);
        faultIs("p0,0,61;", 0);
        faultIs("m1;x", 3);
        faultIs(ANY_PIECE + "p0,0,61;d9,9,99,99;x", 7);
        faultIs("m100;p0,4,0;", 0);
        faultIs("d0,0,0,1;d0,0,0,1;d0,0,0,0;", 18);
        faultIs("l3;l4;l5;", 3);
    }

    @Sentence(of = 4, words = "FAULT. NONE.")
    static void noItemIsNoFault() {
        faultIs("", NONE);
        faultIs("m1;", NONE);
        faultIs(ANY_PIECE, NONE);
        Checks.keepsAll("fault of nothing", () -> Houses.livedIn(""), SpeaksForTheChair::fault, NONE);
        Checks.keepsAll("fault of a text", Houses::livedIn, SpeaksForTheChair::fault, NONE);
        Checks.keepsAll("fault of a faulty text", () -> Houses.livedIn("m1;l4;p0"), SpeaksForTheChair::fault, 3);
    }

    @Sentence(of = 4, words = "ITEMS one behind the other, each a letter")
    static void onlyFourLettersBeginAnItem() {
        for (char letter = 32; letter <= 126; letter++) {
            faultIs(letter + "0;", letter == 'm' || letter == 'l' ? NONE : 0);
            faultIs(letter + "0,0,0;", letter == 'p' ? NONE : 0);
            faultIs(letter + "0,0,0,1;", letter == 'd' ? NONE : 0);
            faultIs(letter + ";", 0);
            faultIs(Character.toString(letter), 0);
        }
        faultIs("m1; m2;", 3);
        faultIs(" m1;", 0);
        faultIs("m1;;", 3);
    }

    @Sentence(of = 4, words = "then numbers (one or two figures) parted by ,")
    static void aNumberHasOneOrTwoFigures() {
        String[] items = {"p#,0,0;", "p0,#,0;", "p0,0,#;", "d#,0,0,1;", "d0,#,0,1;", "d0,0,#,1;", "d0,0,0,#;", "m#;",
            "l#;"};
        for (String item : items) {
            isItem(item.replace("#", "1"));
            isItem(item.replace("#", "01"));
            for (String number : new String[] {"", "001", "000", "1 ", " 1", "+1", "-0", "1.", "a", "/", ":"}) {
                isNoItem(item.replace("#", number));
            }
        }
        isItem("p00,00,00;");
        isItem("d00,00,00,01;");
        isItem("m00;");
        isItem("l00;");
    }

    @Sentence(of = 4, words = "then numbers (one or two figures) parted by ,")
    static void numbersArePartedByOneComma() {
        for (String between : new String[] {"", " ", ";", ".", "+", "-", ",,", ", ", " ,", ";,", ",;"}) {
            for (String item : new String[] {"p0#0,0;", "p0,0#0;", "d0#0,0,1;", "d0,0#0,1;", "d0,0,0#1;"}) {
                isNoItem(item.replace("#", between));
            }
        }
        for (String item : new String[] {"p,0,0,0;", "p0,0,0,;", "d,0,0,0,1;", "d0,0,0,1,;", "m,1;", "m1,;", "l,0;"}) {
            isNoItem(item);
        }
    }

    @Sentence(of = 4, words = "and a ; behind the last one")
    static void aSemicolonEndsTheItem() {
        for (String item : new String[] {ANY_PIECE, "d0,0,0,1;", "m1;", "l0;"}) {
            isItem(item);
            String open = item.substring(0, item.length() - 1);
            for (String end : new String[] {"", ",", ":", ".", " ", "<", " ;"}) {
                isNoItem(open + end);
            }
            for (int length = 1; length < item.length(); length++) {
                faultIs(item.substring(0, length), 0);
                faultIs("m1;" + item.substring(0, length), 3);
            }
            faultIs(item + ";", item.length());
        }
    }

    @Sentence(of = 4, words = "and a ; behind the last one")
    static void noNumberTooFewAndNoneTooMany() {
        for (String item : new String[] {"p;", "p1;", "p1,1;", "p1,1,1,1;", "d;", "d1;", "d1,1;", "d1,1,1;",
            "d1,1,1,1,1;", "m;", "m1,1;", "l;", "l1,1;"}) {
            isNoItem(item);
        }
    }

    @Sentence(of = 4, words = "a PIECE of KIND K (0 TABLE, 1 WARDROBE, 2 SOFA, 3 CRADLE)")
    static void aPiecesKindIs0To3() {
        takes("p#,0,0;", 0, 3);
    }

    @Sentence(of = 4, words = "in ROOM R (0 to 3), that costs C")
    static void aPiecesRoomIs0To3() {
        takes("p0,#,0;", 0, 3);
    }

    @Sentence(of = 4, words = "that costs C (0 to 60)")
    static void aPieceCosts0To60() {
        takes("p0,0,#;", 0, 60);
    }

    @Sentence(of = 4, words = "a DEED of PERSON P (0 to 5)")
    static void aDeedsPersonIs0To5() {
        takes("d#,0,0,1;", 0, 5);
    }

    @Sentence(of = 4, words = "in ROOM R (0 to 3), at HOUR T")
    static void aDeedsRoomIs0To3() {
        takes("d0,#,0,1;", 0, 3);
    }

    @Sentence(of = 4, words = "at HOUR T (0 to 23)")
    static void aDeedsHourIs0To23() {
        takes("d0,0,#,1;", 0, 23);
    }

    @Sentence(of = 4, words = "that WEIGHS W (1 to 30)")
    static void aDeedWeighs1To30() {
        takes("d0,0,0,#;", 1, 30);
    }

    @Sentence(of = 4, words = "the family has M (0 to 99) COINS")
    static void coinsAre0To99() {
        takes("m#;", 0, 99);
        isNoItem("m099;");
    }

    @Sentence(of = 4, words = "the LAW forbids PIECES of KIND K (0 to 3) to speak")
    static void theLawsKindIs0To3() {
        takes("l#;", 0, 3);
    }

    @Sentence(of = {4, 5}, words = "8 at most, 0, 1, ..")
    static void theNinthPieceIsAFault() {
        String mixed = "p0,0,1;m1;p1,1,2;l0;p2,2,3;d0,0,0,1;p3,3,4;p0,3,5;p1,2,6;p2,1,7;";
        faultIs(ANY_PIECE.repeat(7), NONE);
        faultIs(ANY_PIECE.repeat(8), NONE);
        faultIs(ANY_PIECE.repeat(9), 56);
        faultIs(ANY_PIECE.repeat(10) + "x", 56);
        faultIs(mixed + "p3,0,8;", NONE);
        faultIs(mixed + "p3,0,8;m1;p0,0,0;", mixed.length() + 10);
        SpeaksForTheChair x = Checks.laid(mixed + "p3,0,8;");
        for (int p = 0; p < 8; p++) {
            Checks.due("price of the piece " + p, x.piece(p, 2), p + 1);
            Checks.due("kind of the piece " + p, x.piece(p, 0), p % 4);
            Checks.due("room of the piece " + p, x.piece(p, 1), p < 4 ? p : 7 - p);
        }
    }

    @Sentence(of = {4, 5}, words = "9 at most, 0, 1, ..")
    static void theTenthDeedIsAFault() {
        String deed = "d0,0,0,1;";
        faultIs(deed.repeat(8), NONE);
        faultIs(deed.repeat(9), NONE);
        faultIs(deed.repeat(10), 81);
        faultIs(deed.repeat(11) + "x", 81);
        faultIs(deed.repeat(9) + ANY_PIECE.repeat(8) + deed, 137);
        faultIs(deed.repeat(5) + "m1;" + deed.repeat(4) + "l1;" + deed, 87);
        String mixed = "d0,0,0,1;d1,1,1,2;m3;d2,2,2,3;d3,3,3,4;l1;d4,3,4,5;d5,2,5,6;p0,0,0;d4,1,6,7;d3,0,7,8;d2,1,8,9;";
        SpeaksForTheChair x = Checks.laid(mixed);
        for (int d = 0; d < 9; d++) {
            Checks.due("weight of the deed " + d, x.deed(d, 3), d + 1);
            Checks.due("hour of the deed " + d, x.deed(d, 2), d);
            Checks.due("person of the deed " + d, x.deed(d, 0), d < 6 ? d : 10 - d);
        }
    }

    @Sentence(of = {4, 5}, words = "(no matter if told once more)")
    static void theLawToldOnceMoreIsNoMatter() {
        faultIs("l0;l0;", NONE);
        faultIs("l3;".repeat(66), NONE);
        faultIs("l0;l1;l2;l3;l3;l2;l1;l0;", NONE);
        SpeaksForTheChair twice = Checks.laid("p0,0,0;p1,0,0;l0;l0;");
        Checks.due("told twice it forbids yet", twice.piece(0, 5), 0);
        Checks.due("and no other", twice.piece(1, 5), 1);
        SpeaksForTheChair often = Checks.laid("p3,0,0;p2,0,0;l3;l3;l3;");
        Checks.due("told three times it forbids yet", often.piece(0, 5), 0);
        Checks.due("and no other, again", often.piece(1, 5), 1);
    }

    // ---- promise 5

    @Sentence(of = {3, 4, 5}, words = "THE TEXT is empty: how long it was.")
    static void nothingOfAWipedTextIsLaid() {
        String[] before = {"l0;l1;l2;l3;", "m3;", "d0,0,0,1;".repeat(9), "p3,3,60;".repeat(8), "l0;p3,3,60;d0,0,0,1;m3;x"};
        for (String text : before) {
            SpeaksForTheChair x = new SpeaksForTheChair();
            Checks.write(x, text);
            x.fault();
            x.wipe();
            Checks.write(x, "p0,0,1;p1,1,2;p2,2,3;p3,3,4;");
            Checks.due("lay behind " + text, x.lay(), 4);
            Checks.due("pieces", x.count(0), 4);
            Checks.due("deeds", x.count(1), 0);
            Checks.due("coins", x.count(2), 50);
            Checks.due("loose", x.count(3), 4);
            for (int p = 0; p < 4; p++) {
                Checks.due("room of " + p, x.piece(p, 1), p);
            }
        }
    }

    @Sentence(of = {5, 8}, words = "(no matter if told once more)")
    static void theLawEndsWithTheHouse() {
        SpeaksForTheChair x = Checks.laid("p0,0,0;l0;l0;");
        x.wipe();
        Checks.write(x, ANY_PIECE);
        for (int i = 0; i < 3; i++) {
            Checks.due("lay", x.lay(), 1);
            Checks.due("loose", x.piece(0, 5), 1);
            Checks.due("speak", x.speak(0), 0);
        }
    }

    @Sentence(of = 5, words = "the family has M (0 to 99) COINS (50 without; of several the last one counts)")
    static void coinsAreAsToldLast() {
        Checks.due("without", Checks.laid(ANY_PIECE).count(2), 50);
        Checks.due("the least", Checks.laid(ANY_PIECE + "m0;").count(2), 0);
        Checks.due("the greatest", Checks.laid(ANY_PIECE + "m99;").count(2), 99);
        Checks.due("two figures", Checks.laid("m07;" + ANY_PIECE).count(2), 7);
        Checks.due("of two, the lower last", Checks.laid("m99;m0;" + ANY_PIECE).count(2), 0);
        Checks.due("of two, the higher last", Checks.laid("m0;" + ANY_PIECE + "m99;").count(2), 99);
        Checks.due("of many", Checks.laid("m1;m9;m5;m3;m50;m8;" + ANY_PIECE).count(2), 8);
        SpeaksForTheChair x = Checks.laid(ANY_PIECE + "m3;");
        x.wipe();
        Checks.write(x, ANY_PIECE);
        x.lay();
        Checks.due("without, after a house with", x.count(2), 50);
    }

    @Sentence(of = 5, words = "LAID is a TEXT without FAULT, of a PIECE at least (NO else;")
    static void onePieceIsEnoughAndNoneIsNot() {
        Checks.due("a piece alone", layOf(ANY_PIECE), 1);
        Checks.due("a piece behind the rest", layOf("m1;l1;d0,0,0,1;" + ANY_PIECE), 1);
        Checks.due("seven", layOf(ANY_PIECE.repeat(7)), 7);
        Checks.due("eight", layOf(ANY_PIECE.repeat(8)), 8);
        Checks.due("nine", layOf(ANY_PIECE.repeat(9)), NO);
        for (String text : new String[] {"", "m1;", "l0;", "d0,0,0,1;", "m1;l0;d0,0,0,1;"}) {
            Checks.keepsAll("lay \"" + text + "\"", () -> Houses.livedIn(text), SpeaksForTheChair::lay, NO);
        }
    }

    private static int layOf(String text) {
        SpeaksForTheChair x = new SpeaksForTheChair();
        Checks.write(x, text);
        return x.lay();
    }

    @Sentence(of = 5, words = "LAID is a TEXT without FAULT, of a PIECE at least (NO else;")
    static void aFaultyTextIsNotLaid() {
        String[] texts = {"p", "p1,1,1", "p1,1,61;", "p1,1,1;p4,0,0;", "m9;l3;d5,3,3,3;p2,2,2;x", "p1,1,1; ",
            ANY_PIECE.repeat(9), "p1,1,1;" + "d0,0,0,1;".repeat(10)};
        for (String text : texts) {
            Checks.keepsAll("lay \"" + text + "\"", () -> Houses.livedIn(text), SpeaksForTheChair::lay, NO);
        }
    }

    @Sentence(of = 5, words = "LAID: how many PIECES; all STILL, nothing has COME OUT, nothing SEEN, UNDONE, KEPT"
        + " (THE TEXT stays).")
    static void layingBeginsAnew() {
        SpeaksForTheChair x = Houses.livedIn();
        x.keep();
        Checks.due("lay", x.lay(), 1);
        int[] wanted = {1, 1, 50, 1, 0, 0, 0, 0, 0, 0, Houses.WRITTEN.length()};
        for (int what = 0; what <= 10; what++) {
            Checks.due("count " + what, x.count(what), wanted[what]);
        }
        Checks.due("still", x.piece(0, 3), 0);
        Checks.due("not out", x.deed(0, 4), 0);
        Checks.due("nothing seen", x.may(0, 0), 15);
        Checks.due("forget", x.forget(), 0);
        Checks.due("undo", x.undo(), NO);
        Checks.due("back", x.back(), NO);
        Checks.due("the text stays: fault", x.fault(), NONE);
        Checks.due("the text stays: lay again", x.lay(), 1);
        Checks.due("the text stays: wipe", x.wipe(), Houses.WRITTEN.length());
    }

    @Sentence(of = 5, words = "LAID: how many PIECES; all STILL, nothing has COME OUT, nothing SEEN, UNDONE, KEPT"
        + " (THE TEXT stays).")
    static void layingAFullHouseAnewFreesAllRoom() {
        SpeaksForTheChair x = Houses.eight(99);
        for (int i = 0; i < 6; i++) {
            x.seen(i, i, 1);
        }
        x.keep();
        x.keep();
        for (int p = 0; p < 8; p++) {
            Checks.due(p % 2 == 0 ? "speak" : "buy", p % 2 == 0 ? x.speak(p) : x.buy(p) > 0 ? 1 : 0, 1);
        }
        Checks.due("lay", x.lay(), 8);
        SpeaksForTheChair twin = Houses.eight(99);
        Checks.due("seen", x.seen(7, 7, 0), twin.seen(7, 7, 0));
        Checks.due("keep", x.keep(), twin.keep());
        Checks.due("speak", x.speak(7), twin.speak(7));
        Checks.holds("as a new one", Houses.allOf(x).equals(Houses.allOf(twin)));
    }

    @Sentence(of = {5, 7, 12, 21, 23, 24}, words = "(PIECES, DEEDS, PERSONS: such as there are, PERSONS 0 to 5)")
    static void aHouseWithoutDeedsHasNoDeed0() {
        SpeaksForTheChair x = Checks.laid(ANY_PIECE);
        Checks.due("deeds", x.count(1), 0);
        Checks.due("deed", x.deed(0, 0), BAD);
        Checks.due("hush", x.hush(0, 0), BAD);
        Checks.due("seen", x.seen(0, 0, 0), BAD);
        Checks.due("may", x.may(0, 0), BAD);
        Checks.due("likely", x.likely(0, 0, 0), BAD);
        Checks.due("hushAll", x.hushAll(1, 0), 0);
        Checks.due("hushOne", x.hushOne(0, 1), 0);
        Checks.due("save", x.save(0), 0);
        Checks.due("cover", x.cover(0), 0);
        Checks.due("dealer", x.dealer(0), NONE);
        Checks.due("dealer, all", x.dealer(-1), 0);
        Checks.due("ruin", x.ruin(5), 0);
        Checks.due("sale", x.sale(0, 40, 0), 0);
        Checks.due("what it tells", x.piece(0, 4), 0);
        Checks.due("speak", x.speak(0), 0);
    }
}
