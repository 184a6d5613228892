/** Boundary cases of promises 12 to 20. */
final class SilenceEdges {
    private static final int BAD = SpeaksForTheChair.BAD, NONE = SpeaksForTheChair.NONE;

    private SilenceEdges() {
    }

    // ---- promise 12

    private static void hushIs(SpeaksForTheChair x, int d, int price, int set) {
        Checks.due("hush " + d + ", how much", x.hush(d, 0), price);
        Checks.due("hush " + d + ", which", x.hush(d, 1), set);
    }

    @Sentence(of = 12, words = "HUSH: how much (what = 0), which, as bits (1). NONE; BAD.")
    static void hushOfWhatThereIsNot() {
        for (int d : Checks.outside(0, 5)) {
            Checks.keepsAll("hush " + d, Houses::livedIn, x -> x.hush(d, 0), BAD);
        }
        for (int what : Checks.outside(0, 1)) {
            Checks.keepsAll("hush what " + what, Houses::livedIn, x -> x.hush(0, what), BAD);
        }
        Checks.due("the first of nine", Houses.eight(0).hush(0, 0), 1);
        Checks.due("the last of nine", Houses.eight(0).hush(8, 0), 0);
        Checks.due("above nine", Houses.eight(0).hush(9, 0), BAD);
        Checks.due("above one", Checks.laid("p0,0,0;d0,0,0,1;").hush(1, 0), BAD);
    }

    @Sentence(of = 12, words = "how much; which; none (it has COME OUT)")
    static void whatHasComeOutIsNotHushed() {
        Checks.keepsAll("how much", Houses::livedIn, x -> x.hush(1, 0), NONE);
        Checks.keepsAll("which", Houses::livedIn, x -> x.hush(4, 1), NONE);
        SpeaksForTheChair x = Houses.livedIn();
        hushIs(x, 0, 0, 0);
        hushIs(x, 3, 12, 4);
        SpeaksForTheChair one = Checks.laid("p0,0,9;p0,0,8;d0,0,0,1;");
        hushIs(one, 0, 17, 3);
        one.speak(0);
        Checks.due("come out, though another tells it yet", one.hush(0, 1), NONE);
        one.undo();
        hushIs(one, 0, 17, 3);
    }

    @Sentence(of = 12, words = "Of several the first in this order; nothing changes then.")
    static void badComesBeforeNone() {
        Checks.keepsAll("come out, what 2", Houses::livedIn, x -> x.hush(1, 2), BAD);
        Checks.keepsAll("come out, what -1", Houses::livedIn, x -> x.hush(4, -1), BAD);
    }

    @Sentence(of = 12, words = "HUSH for a DEED: of sets of LOOSE PIECES those that, BOUGHT, leave no LOOSE one that TELLS"
        + " it, that which costs least (whatever the purse)")
    static void noneOrAllEightAreToBeBought() {
        SpeaksForTheChair x = Checks.laid("p0,0,60;".repeat(8) + "d0,0,0,1;d0,1,0,1;m0;");
        hushIs(x, 0, 480, 255);
        hushIs(x, 1, 0, 0);
        x.carry(7, 1);
        hushIs(x, 0, 420, 127);
        hushIs(x, 1, 60, 128);
        SpeaksForTheChair law = Checks.laid("p0,0,60;d0,0,0,1;l0;");
        hushIs(law, 0, 0, 0);
        SpeaksForTheChair one = Checks.laid("p0,0,60;d0,0,0,1;m60;");
        hushIs(one, 0, 60, 1);
        one.buy(0);
        hushIs(one, 0, 0, 0);
    }

    @Sentence(of = 12, words = "of several the lowest as bits: how much; which; none")
    static void ofHushesThatCostLeastTheLowest() {
        SpeaksForTheChair x = Checks.laid("p0,1,0;p0,0,0;p0,1,0;p0,0,0;p0,2,0;d0,0,0,1;d0,3,0,1;");
        hushIs(x, 0, 0, 0b1010);
        hushIs(x, 1, 0, 0);
    }

    // ---- promise 13

    private static void hushAllIs(SpeaksForTheChair x, int w, int price, int set) {
        Checks.due("hushAll " + w + ", how much", x.hushAll(w, 0), price);
        Checks.due("hushAll " + w + ", which", x.hushAll(w, 1), set);
    }

    @Sentence(of = 13, words = "HUSH ALL of w (1 to 30) likewise: for all DEEDS that WEIGH w or more and have not COME OUT.")
    static void hushAllOfEachWeight() {
        SpeaksForTheChair x = Houses.eight(0);
        int price = 36;
        for (int w = 1; w <= 8; w++) {
            hushAllIs(x, w, price, 256 - (1 << w - 1));
            price -= w;
        }
        hushAllIs(x, 9, 0, 0);
        hushAllIs(x, 29, 0, 0);
        hushAllIs(x, 30, 0, 0);
        SpeaksForTheChair heavy = Checks.laid("p0,0,5;p0,1,6;p0,2,7;d0,0,0,30;d0,1,0,29;d0,2,0,1;");
        hushAllIs(heavy, 30, 5, 1);
        hushAllIs(heavy, 29, 11, 3);
        hushAllIs(heavy, 2, 11, 3);
        hushAllIs(heavy, 1, 18, 7);
    }

    @Sentence(of = 13, words = "HUSH ALL: how much (what = 0), which (1). BAD.")
    static void hushAllOfWhatThereIsNot() {
        for (int w : Checks.outside(1, 30)) {
            Checks.keepsAll("hushAll " + w, Houses::livedIn, x -> x.hushAll(w, 0), BAD);
        }
        for (int what : Checks.outside(0, 1)) {
            Checks.keepsAll("hushAll what " + what, Houses::livedIn, x -> x.hushAll(1, what), BAD);
        }
    }

    @Sentence(of = 13, words = "for all DEEDS that WEIGH w or more and have not COME OUT")
    static void hushAllWhenAllHasComeOut() {
        SpeaksForTheChair x = Houses.eight(0);
        x.speak(7);
        hushAllIs(x, 8, 0, 0);
        hushAllIs(x, 7, 7, 64);
        SpeaksForTheChair one = Checks.laid("p0,0,9;p0,0,8;d0,0,0,30;");
        hushAllIs(one, 30, 17, 3);
        one.speak(0);
        hushAllIs(one, 30, 0, 0);
        hushAllIs(one, 1, 0, 0);
        hushAllIs(Checks.laid("p0,0,60;".repeat(8) + "d0,0,0,1;"), 1, 480, 255);
    }

    // ---- promise 14

    private static void hushOneIs(SpeaksForTheChair x, int person, int price, int set) {
        Checks.due("hushOne " + person + ", how much", x.hushOne(person, 0), price);
        Checks.due("hushOne " + person + ", which", x.hushOne(person, 1), set);
    }

    @Sentence(of = 14, words = "HUSH ONE for a PERSON likewise: for all his that have not.")
    static void hushOneOfEachPerson() {
        SpeaksForTheChair x = Houses.eight(0);
        hushOneIs(x, 0, 3, 3);
        hushOneIs(x, 1, 7, 12);
        hushOneIs(x, 2, 11, 48);
        hushOneIs(x, 3, 15, 192);
        hushOneIs(x, 4, 0, 0);
        hushOneIs(x, 5, 0, 0);
        x.carry(6, 2);
        x.carry(0, 2);
        hushOneIs(x, 0, 2, 2);
        x.speak(1);
        hushOneIs(x, 0, 0, 0);
        SpeaksForTheChair last = Checks.laid("p0,0,60;".repeat(8) + "d5,0,0,1;");
        hushOneIs(last, 5, 480, 255);
        hushOneIs(last, 4, 0, 0);
        last.speak(0);
        hushOneIs(last, 5, 0, 0);
    }

    @Sentence(of = 14, words = "PERSONS 0 to 5). NO: not as things stand.")
    static void hushOneOfWhatThereIsNot() {
        for (int person : Checks.outside(0, 5)) {
            Checks.keepsAll("hushOne " + person, Houses::livedIn, x -> x.hushOne(person, 0), BAD);
        }
        for (int what : Checks.outside(0, 1)) {
            Checks.keepsAll("hushOne what " + what, Houses::livedIn, x -> x.hushOne(0, what), BAD);
        }
    }

    // ---- promise 15

    private static void saveIs(SpeaksForTheChair x, int weight, int set) {
        Checks.due("save, as much", x.save(0), weight);
        Checks.due("save, which", x.save(1), set);
    }

    @Sentence(of = 15, words = "SAVE: as much (what = 0), which (1). BAD.")
    static void saveOfWhatThereIsNot() {
        for (int what : Checks.outside(0, 1)) {
            Checks.keepsAll("save what " + what, Houses::livedIn, x -> x.save(what), BAD);
        }
    }

    @Sentence(of = 15, words = "SAVE: of sets of LOOSE PIECES that cost no more than its COINS together")
    static void saveByTheLastCoin() {
        saveIs(Houses.eight(0), 36, 0);
        saveIs(Houses.eight(1), 35, 1);
        saveIs(Houses.eight(2), 34, 2);
        saveIs(Houses.eight(35), 1, 254);
        saveIs(Houses.eight(36), 0, 255);
        saveIs(Houses.eight(99), 0, 255);
        String two = "p0,0,30;p0,1,20;d0,0,0,9;d0,1,0,8;";
        saveIs(Checks.laid(two + "m49;"), 8, 1);
        saveIs(Checks.laid(two + "m50;"), 0, 3);
        saveIs(Checks.laid(two + "m30;"), 8, 1);
        saveIs(Checks.laid(two + "m29;"), 9, 2);
        saveIs(Checks.laid(two + "m20;"), 9, 2);
        saveIs(Checks.laid(two + "m19;"), 17, 0);
        saveIs(Checks.laid("p0,0,0;d0,0,0,9;m0;"), 0, 1);
        saveIs(Checks.laid("p0,0,60;".repeat(8) + "d0,0,0,30;m99;"), 30, 0);
    }

    @Sentence(of = 15, words = "DEEDS that the other LOOSE ones TELL and that have not COME OUT WEIGH least together")
    static void saveWithNothingToSave() {
        saveIs(Checks.laid("p0,0,0;m99;"), 0, 0);
        saveIs(Checks.laid("p0,0,0;d0,0,0,9;l0;"), 0, 0);
        SpeaksForTheChair x = Houses.eight(99);
        x.speak(7);
        saveIs(x, 0, 127);
        x.buy(0);
        saveIs(x, 0, 126);
        SpeaksForTheChair told = Checks.laid("p0,0,0;p0,0,0;d0,0,0,30;");
        saveIs(told, 0, 3);
        told.speak(0);
        saveIs(told, 0, 0);
        saveIs(Checks.laid("p0,0,1;" + "d0,0,0,30;".repeat(9) + "m0;"), 270, 0);
    }

    @Sentence(of = 15, words = "of several the lowest as bits: as much; which.")
    static void ofSavesThatLeaveLeastTheLowest() {
        saveIs(Checks.laid("p0,0,9;p0,1,9;d0,0,0,5;d0,1,0,5;m9;"), 5, 1);
        saveIs(Checks.laid("p0,2,0;p0,0,0;p0,2,0;p0,1,0;d0,0,0,5;m9;"), 0, 2);
        saveIs(Checks.laid("p0,0,5;p0,0,5;d0,0,0,5;m9;"), 5, 0);
    }

    // ---- promise 16

    @Sentence(of = 16, words = "TOGETHER, as bits. BAD (alike, too).")
    static void togetherOfOneOrOfWhatThereIsNot() {
        for (int p = 0; p < 7; p++) {
            int one = p;
            Checks.keepsAll("together " + p + " " + p, Houses::livedIn, x -> x.together(one, one), BAD);
        }
        for (int p : Checks.outside(0, 6)) {
            Checks.keepsAll("together " + p + " 0", Houses::livedIn, x -> x.together(p, 0), BAD);
            Checks.keepsAll("together 0 " + p, Houses::livedIn, x -> x.together(0, p), BAD);
            Checks.keepsAll("together " + p + " twice", Houses::livedIn, x -> x.together(p, p), BAD);
        }
        Checks.due("above one", Checks.laid("p0,0,0;").together(0, 1), BAD);
        Checks.due("above eight", Houses.eight(0).together(7, 8), BAD);
    }

    @Sentence(of = 16, words = "TOGETHER of two PIECES: DEEDS (bits) that both TELL.")
    static void nothingOrAllNineTogether() {
        SpeaksForTheChair x = Checks.laid("p0,0,0;".repeat(8) + "d0,0,0,1;".repeat(9));
        Checks.due("all nine", x.together(0, 7), 511);
        Checks.due("the other way", x.together(7, 0), 511);
        Checks.due("neighbours", x.together(6, 7), 511);
        x.carry(7, 1);
        Checks.due("nothing", x.together(0, 7), 0);
        Checks.due("nothing, the other way", x.together(7, 0), 0);
        x.carry(7, 0);
        x.speak(0);
        x.buy(7);
        Checks.due("one has spoken and one is bought", x.together(0, 7), 511);
        Checks.due("two that the law forbids to speak", Checks.laid("p0,0,0;p0,0,0;d0,0,0,1;l0;").together(0, 1), 1);
        SpeaksForTheChair kinds = Checks.laid("p1,0,0;p3,0,0;p0,0,0;d0,0,11,10;d0,0,12,10;");
        Checks.due("wardrobe and cradle", kinds.together(0, 1), 0);
        Checks.due("wardrobe and table", kinds.together(0, 2), 2);
        Checks.due("table and cradle", kinds.together(2, 1), 1);
    }

    // ---- promise 17

    private static void coverIs(SpeaksForTheChair x, int size, int set) {
        Checks.due("cover, how many", x.cover(0), size);
        Checks.due("cover, which", x.cover(1), set);
    }

    @Sentence(of = 17, words = "COVER: how many (what = 0), which (1). BAD.")
    static void coverOfWhatThereIsNot() {
        for (int what : Checks.outside(0, 1)) {
            Checks.keepsAll("cover what " + what, Houses::livedIn, x -> x.cover(what), BAD);
        }
    }

    @Sentence(of = 17, words = "COVER: the fewest LOOSE PIECES that TELL all DEEDS that any LOOSE one TELLS")
    static void noneOneOrAllEightCover() {
        coverIs(Checks.laid("p0,0,0;"), 0, 0);
        coverIs(Checks.laid("p0,0,0;d0,1,0,1;"), 0, 0);
        coverIs(Checks.laid("p0,0,0;d0,0,0,1;l0;"), 0, 0);
        coverIs(Checks.laid("p0,0,0;d0,0,0,1;"), 1, 1);
        SpeaksForTheChair x = Houses.eight(99);
        coverIs(x, 8, 255);
        x.buy(7);
        coverIs(x, 7, 127);
        x.speak(0);
        coverIs(x, 6, 126);
        SpeaksForTheChair last = Checks.laid("p0,1,0;".repeat(7) + "p0,0,0;d0,0,0,1;");
        coverIs(last, 1, 128);
        last.speak(7);
        coverIs(last, 0, 0);
    }

    @Sentence(of = 17, words = "COVER: the fewest LOOSE PIECES that TELL all DEEDS that any LOOSE one TELLS")
    static void sevenOfEightCover() {
        SpeaksForTheChair x = Houses.eight(0);
        x.carry(0, 1);
        coverIs(x, 7, 255 - 4);
        x.carry(2, 0);
        coverIs(x, 8, 255);
        x.carry(7, 2);
        coverIs(x, 7, 127);
    }

    @Sentence(of = 17, words = "of several sets the lowest as bits: how many; which.")
    static void ofCoversAlikeTheLowest() {
        coverIs(Checks.laid("p0,0,0;".repeat(8) + "d0,0,0,1;"), 1, 1);
        coverIs(Checks.laid("p0,1,0;p0,0,0;p0,0,0;p0,2,0;p0,2,0;d0,0,0,1;d0,2,0,1;"), 2, 0b1010);
        coverIs(Checks.laid("p1,0,0;p3,0,0;p0,0,0;d0,0,11,1;d0,0,12,1;"), 1, 4);
    }

    @Sentence(of = 17, words = "that TELL all DEEDS that any LOOSE one TELLS")
    static void whatHasComeOutIsCoveredToo() {
        SpeaksForTheChair x = Checks.laid("p0,0,0;p0,0,0;d0,0,0,1;");
        x.speak(0);
        coverIs(x, 1, 2);
    }

    // ---- promise 18

    @Sentence(of = 18, words = "SAFE, as bits. BAD (t: 0 to 23, w: 1 to 30).")
    static void safeAtEachHourForEachWeight() {
        SpeaksForTheChair x = Checks.laid("p0,0,1;p1,1,1;p3,2,1;");
        for (int t : new int[] {0, 1, 10, 11, 12, 13, 22, 23}) {
            for (int w : new int[] {1, 2, 9, 10, 11, 29, 30}) {
                int told = 1 | (t >= 12 ? 2 : 0) | (t < 12 && w <= 10 ? 4 : 0);
                Checks.due("safe " + t + " " + w, x.safe(t, w), 15 - told);
            }
        }
        for (int t : Checks.outside(0, 23)) {
            Checks.keepsAll("safe at " + t, Houses::livedIn, y -> y.safe(t, 1), BAD);
        }
        for (int w : Checks.outside(1, 30)) {
            Checks.keepsAll("safe for " + w, Houses::livedIn, y -> y.safe(0, w), BAD);
        }
    }

    @Sentence(of = 18, words = "SAFE at HOUR t for w: ROOMS (bits) in which one DEED more (of the highest number) done then,"
        + " that WEIGHS w, would be told by no LOOSE PIECE.")
    static void allRoomsOrNoneAreSafe() {
        SpeaksForTheChair x = Checks.laid("p0,0,1;p0,1,1;p0,2,1;p0,3,1;");
        Checks.due("none", x.safe(0, 1), 0);
        x.carry(3, 0);
        Checks.due("the last", x.safe(0, 1), 8);
        x.carry(0, 3);
        x.carry(3, 3);
        Checks.due("the first", x.safe(0, 1), 1);
        SpeaksForTheChair one = Checks.laid("p0,2,1;d0,2,0,1;");
        Checks.due("all but one", one.safe(23, 30), 11);
        one.speak(0);
        Checks.due("all, it has spoken", one.safe(23, 30), 15);
        one.undo();
        one.buy(0);
        Checks.due("all, it is bought", one.safe(23, 30), 15);
        Checks.due("all, by law", Checks.laid("p0,2,1;l0;").safe(23, 30), 15);
    }

    @Sentence(of = 18, words = "one DEED more (of the highest number)")
    static void oneDeedMoreIsTheLatestOfLikeHours() {
        Checks.due("no deed there", Checks.laid("p2,0,0;").safe(0, 1), 14);
        Checks.due("one later", Checks.laid("p2,0,0;d0,0,9,1;").safe(8, 1), 14);
        String two = "p2,0,0;d0,0,9,1;d0,0,9,1;";
        Checks.due("two later", Checks.laid(two).safe(8, 1), 15);
        Checks.due("two at the same hour", Checks.laid(two).safe(9, 1), 14);
        Checks.due("two earlier", Checks.laid(two).safe(10, 1), 14);
        Checks.due("two later elsewhere", Checks.laid("p2,0,0;d0,1,9,1;d0,2,9,1;").safe(0, 1), 14);
        String nine = "p2,3,0;" + "d0,3,23,1;".repeat(9);
        Checks.due("nine later", Checks.laid(nine).safe(22, 1), 15);
        Checks.due("nine at the same hour", Checks.laid(nine).safe(23, 1), 7);
    }

    // ---- promise 19

    @Sentence(of = 19, words = "DEALER: how much all together (k = -1), the k-th (0 first; NONE: there are not so many,"
        + " whatever k). BAD: k below -1.")
    static void theDealersFirstAndLast() {
        SpeaksForTheChair x = Houses.eight(0);
        Checks.due("all together", x.dealer(-1), 36);
        for (int k = 0; k < 8; k++) {
            Checks.due("the one at " + k, x.dealer(k), 7 - k);
        }
        for (int k : new int[] {8, 9, 10, 100, 256, 65536, Integer.MAX_VALUE - 1, Integer.MAX_VALUE}) {
            Checks.keepsAll("the one at " + k, Houses::livedIn, y -> y.dealer(k), NONE);
            Checks.due("the one at " + k, x.dealer(k), NONE);
        }
        for (int k : new int[] {-2, -3, -4, -100, Integer.MIN_VALUE, Integer.MIN_VALUE + 1}) {
            Checks.keepsAll("the one at " + k, Houses::livedIn, y -> y.dealer(k), BAD);
        }
        Checks.keepsAll("all together", Houses::livedIn, y -> y.dealer(-1), 28);
        Checks.keepsAll("as if it had spoken", Houses::livedIn, y -> y.dealer(0), 2);
        Checks.keepsAll("one above the last", Houses::livedIn, y -> y.dealer(1), NONE);
    }

    @Sentence(of = 19, words = "as long as any lets any COME OUT: the k-th; how much.")
    static void theDealerHasNobodySpeak() {
        for (String text : new String[] {"p0,0,0;", "p0,0,0;d0,1,0,30;", "p0,0,0;d0,0,0,30;l0;"}) {
            SpeaksForTheChair x = Checks.laid(text);
            Checks.due("all together of " + text, x.dealer(-1), 0);
            Checks.due("the first of " + text, x.dealer(0), NONE);
            Checks.due("below of " + text, x.dealer(-2), BAD);
        }
        SpeaksForTheChair one = Checks.laid("p0,0,0;p0,0,0;d0,0,0,1;");
        Checks.due("the first", one.dealer(0), 0);
        Checks.due("no second that lets any come out", one.dealer(1), NONE);
        Checks.due("all together", one.dealer(-1), 1);
        one.speak(1);
        Checks.due("all has come out", one.dealer(0), NONE);
        Checks.due("all has come out, all together", one.dealer(-1), 0);
        Checks.due("most", Checks.laid("p0,3,0;" + "d0,3,0,30;".repeat(9)).dealer(-1), 270);
    }

    @Sentence(of = 19, words = "WEIGH most together, of several the lowest; then, as if it had SPOKEN, the next one")
    static void ofLikeWeightsTheLowest() {
        SpeaksForTheChair x = Checks.laid("p0,0,0;p0,1,0;p0,2,0;d0,0,0,5;d0,1,0,5;d0,2,0,5;");
        Checks.due("first", x.dealer(0), 0);
        Checks.due("second", x.dealer(1), 1);
        Checks.due("third", x.dealer(2), 2);
        Checks.due("no fourth", x.dealer(3), NONE);
        SpeaksForTheChair y = Checks.laid("p0,0,0;p0,1,0;p1,1,0;d0,0,0,5;d0,1,12,6;");
        Checks.due("one more is the heaviest", y.dealer(0), 1);
        Checks.due("what it let come out counts no more", y.dealer(1), 0);
        Checks.due("no third", y.dealer(2), NONE);
        Checks.due("all together", y.dealer(-1), 11);
    }

    // ---- promise 20

    @Sentence(of = 20, words = "RUIN: what all DEEDS of a PERSON that have COME OUT WEIGH.")
    static void nothingOrAllNineOfAPersonsDeeds() {
        for (int person = 0; person <= 5; person++) {
            SpeaksForTheChair x = Checks.laid("p0,3,0;" + ("d" + person + ",3,0,30;").repeat(9));
            Checks.due("at first", x.ruin(person), 0);
            x.speak(0);
            for (int other = 0; other <= 5; other++) {
                Checks.due("of " + other, x.ruin(other), other == person ? 270 : 0);
            }
        }
        SpeaksForTheChair some = Checks.laid("p0,0,0;d5,0,0,1;d5,1,0,2;d0,0,0,4;");
        some.speak(0);
        Checks.due("what has not come out does not count", some.ruin(5), 1);
        Checks.due("of another", some.ruin(0), 4);
        Checks.due("of one who has done nothing", some.ruin(4), 0);
    }

    @Sentence(of = 20, words = "RUIN. BAD.")
    static void ruinOfWhatThereIsNot() {
        for (int person : Checks.outside(0, 5)) {
            Checks.keepsAll("ruin " + person, Houses::livedIn, x -> x.ruin(person), BAD);
        }
        Checks.keepsAll("ruin 1", Houses::livedIn, x -> x.ruin(1), 21);
    }
}
