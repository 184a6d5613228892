/** Boundary cases of promises 8 to 11. */
final class ActEdges {
    private static final int BAD = SpeaksForTheChair.BAD, NO = SpeaksForTheChair.NO;

    private ActEdges() {
    }

    // ---- promise 8

    @Sentence(of = 8, words = "A PIECE SPEAKS: how many DEEDS COME OUT that had not.")
    static void noneOrAllNineComeOut() {
        SpeaksForTheChair x = Checks.laid("p0,1,0;p0,0,0;p0,0,0;" + "d0,0,0,1;".repeat(9));
        Checks.due("none to tell", x.speak(0), 0);
        Checks.due("out", x.count(6), 0);
        Checks.due("nine", x.speak(1), 9);
        Checks.due("out then", x.count(6), 9);
        Checks.due("none that had not", x.speak(2), 0);
        Checks.due("out yet", x.count(6), 9);
        Checks.due("spoken", x.count(5), 3);
    }

    @Sentence(of = 8, words = "A PIECE SPEAKS: how many DEEDS COME OUT that had not.")
    static void onlyThoseThatHadNotAreCounted() {
        SpeaksForTheChair x = Checks.laid("p1,0,0;p2,0,0;p0,0,0;d0,0,1,1;d0,0,13,1;d0,0,14,1;d0,0,2,1;d0,0,15,1;");
        Checks.due("a wardrobe", x.speak(0), 3);
        Checks.due("a sofa", x.speak(1), 0);
        Checks.due("a table", x.speak(2), 2);
        Checks.due("out", x.count(6), 5);
    }

    @Sentence(of = 8, words = "BAD; NO: not LOOSE.")
    static void onlyALoosePieceSpeaks() {
        for (int p : Checks.outside(0, 6)) {
            Checks.keepsAll("speak " + p, Houses::livedIn, x -> x.speak(p), BAD);
        }
        Checks.keepsAll("speak, forbidden by law", Houses::livedIn, x -> x.speak(0), NO);
        Checks.keepsAll("speak, bought", Houses::livedIn, x -> x.speak(1), NO);
        Checks.keepsAll("speak, spoken", Houses::livedIn, x -> x.speak(3), NO);
        Checks.due("the first of eight", Houses.eight(0).speak(0), 1);
        Checks.due("the last of eight", Houses.eight(0).speak(7), 1);
        Checks.due("above eight", Houses.eight(0).speak(8), BAD);
        Checks.due("above one", Checks.laid("p0,0,0;").speak(1), BAD);
    }

    @Sentence(of = 8, words = "A STILL one SPEAKS, if the LAW does not forbid it")
    static void eachKindSpeaksUnlessForbidden() {
        for (int law = 0; law <= 3; law++) {
            SpeaksForTheChair x = Checks.laid("p0,0,0;p1,0,0;p2,0,0;p3,0,0;l" + law + ";");
            for (int kind = 0; kind <= 3; kind++) {
                Checks.due("kind " + kind + " by law " + law, x.speak(kind), kind == law ? NO : 0);
            }
        }
    }

    // ---- promise 9

    @Sentence(of = 9, words = "A STILL one is BOUGHT by the family for its price, if it has the COINS")
    static void allCoinsAreEnoughAndOneLessIsNot() {
        Checks.due("all coins", Checks.laid("p0,0,7;m7;").buy(0), 0);
        Checks.due("one more than the price", Checks.laid("p0,0,7;m8;").buy(0), 1);
        Checks.keepsAll("one less", () -> Checks.laid("p0,0,7;m6;"), x -> x.buy(0), NO);
        Checks.due("nothing for nothing", Checks.laid("p0,0,0;m0;").buy(0), 0);
        Checks.keepsAll("one for nothing", () -> Checks.laid("p0,0,1;m0;"), x -> x.buy(0), NO);
        Checks.due("the dearest", Checks.laid("p0,0,60;m60;").buy(0), 0);
        Checks.due("the dearest by most coins", Checks.laid("p0,0,60;m99;").buy(0), 39);
        Checks.keepsAll("the dearest, one less", () -> Checks.laid("p0,0,60;m59;"), x -> x.buy(0), NO);
        Checks.keepsAll("the dearest, by untold coins", () -> Checks.laid("p0,0,60;"), x -> x.buy(0), NO);
        Checks.due("for nothing, coins stay", Checks.laid("p0,0,0;m99;").buy(0), 99);
    }

    @Sentence(of = 9, words = "A PIECE is BOUGHT: COINS left.")
    static void theLastCoinBuysTheLastPiece() {
        SpeaksForTheChair x = Houses.eight(36);
        int left = 36;
        for (int p = 7; p >= 0; p--) {
            left -= p + 1;
            Checks.due("buy " + p, x.buy(p), left);
            Checks.due("coins", x.count(2), left);
        }
        SpeaksForTheChair less = Houses.eight(35);
        for (int p = 7; p >= 1; p--) {
            less.buy(p);
        }
        Checks.due("nothing left", less.count(2), 0);
        Checks.due("no coin for the last", less.buy(0), NO);
        Checks.due("it is still", less.piece(0, 3), 0);
    }

    @Sentence(of = 9, words = "BAD; NO: not STILL, not so many.")
    static void onlyAStillPieceIsBought() {
        for (int p : Checks.outside(0, 6)) {
            Checks.keepsAll("buy " + p, Houses::livedIn, x -> x.buy(p), BAD);
        }
        Checks.keepsAll("buy, bought", Houses::livedIn, x -> x.buy(1), NO);
        Checks.keepsAll("buy, spoken", Houses::livedIn, x -> x.buy(3), NO);
        Checks.keepsAll("buy, too dear", Houses::livedIn, x -> x.buy(5), NO);
        Checks.due("what the law forbids to speak", Houses.livedIn().buy(0), 8);
        Checks.due("the last of eight", Houses.eight(8).buy(7), 0);
        Checks.due("above eight", Houses.eight(8).buy(8), BAD);
        Checks.due("above one", Checks.laid("p0,0,0;").buy(1), BAD);
    }

    @Sentence(of = {8, 9}, words = "it does not SPEAK any more")
    static void aBoughtOneDoesNotSpeak() {
        SpeaksForTheChair x = Checks.laid("p0,0,0;d0,0,0,1;");
        x.buy(0);
        Checks.due("speak", x.speak(0), NO);
        x.carry(0, 1);
        x.carry(0, 0);
        Checks.due("speak, carried and back", x.speak(0), NO);
        Checks.due("nothing has come out", x.count(6), 0);
        Checks.due("nor would at a sale", x.sale(0, 40, 0), 0);
    }

    // ---- promise 10

    @Sentence(of = 10, words = "A PIECE that has not SPOKEN can be CARRIED to another ROOM.")
    static void fromEachRoomToEachOther() {
        for (int from = 0; from <= 3; from++) {
            for (int to = 0; to <= 3; to++) {
                String text = "p1," + (3 - from) + ",0;p0," + from + ",0;p2," + (3 - to) + ",0;";
                SpeaksForTheChair x = Checks.laid(text);
                Checks.due("from " + from + " to " + to, x.carry(1, to), from == to ? NO : from);
                Checks.due("there", x.piece(1, 1), to);
                Checks.due("the one before stays", x.piece(0, 1), 3 - from);
                Checks.due("the one behind stays", x.piece(2, 1), 3 - to);
                Checks.due("acts", x.count(8), from == to ? 0 : 1);
            }
        }
    }

    @Sentence(of = 10, words = "A PIECE is CARRIED: the ROOM it was in. BAD; NO: SPOKEN, it is there.")
    static void refusedCarries() {
        for (int p : Checks.outside(0, 6)) {
            Checks.keepsAll("carry " + p, Houses::livedIn, x -> x.carry(p, 2), BAD);
        }
        for (int r : Checks.outside(0, 3)) {
            Checks.keepsAll("carry to " + r, Houses::livedIn, x -> x.carry(0, r), BAD);
        }
        Checks.keepsAll("carry a spoken one", Houses::livedIn, x -> x.carry(3, 1), NO);
        Checks.keepsAll("carry a spoken one to where it is", Houses::livedIn, x -> x.carry(3, 0), NO);
        Checks.keepsAll("carry to where it is", Houses::livedIn, x -> x.carry(2, 1), NO);
        Checks.keepsAll("carry to where it was carried", Houses::livedIn, x -> x.carry(6, 3), NO);
        Checks.keepsAll("carry a bought one to where it is", Houses::livedIn, x -> x.carry(1, 0), NO);
        Checks.due("a bought one", Houses.livedIn().carry(1, 3), 0);
        Checks.due("one that the law forbids to speak", Houses.livedIn().carry(0, 3), 0);
        Checks.due("the last of eight", Houses.eight(0).carry(7, 0), 3);
        Checks.due("the first of eight", Houses.eight(0).carry(0, 3), 0);
        Checks.due("above eight", Houses.eight(0).carry(8, 0), BAD);
        Checks.due("above one", Checks.laid("p0,0,0;").carry(1, 1), BAD);
    }

    @Sentence(of = {8, 9, 10}, words = "Of several the first in this order; nothing changes then.")
    static void badComesBeforeNo() {
        Checks.keepsAll("carry a spoken one to room 4", Houses::livedIn, x -> x.carry(3, 4), BAD);
        Checks.keepsAll("carry a spoken one to room -1", Houses::livedIn, x -> x.carry(3, -1), BAD);
        SpeaksForTheChair poor = Checks.laid("p0,0,60;m0;l0;");
        Checks.due("buy what there is not", poor.buy(1), BAD);
        Checks.due("buy what there is", poor.buy(0), NO);
        Checks.due("speak, there is not", poor.speak(1), BAD);
        Checks.due("speak, there is", poor.speak(0), NO);
    }

    // ---- promise 11

    @Sentence(of = 11, words = "UNDONE: how many more can be. NO.")
    static void nothingIsUndoneOfNothing() {
        Checks.keepsAll("undo of a new object", SpeaksForTheChair::new, SpeaksForTheChair::undo, NO);
        SpeaksForTheChair x = new SpeaksForTheChair();
        x.buy(6);
        Checks.due("undo of one", x.undo(), 0);
        Checks.due("bought no more", x.piece(6, 3), 0);
        Checks.due("coins are back", x.count(2), 40);
        Checks.due("undo of no more", x.undo(), NO);
        Checks.due("coins stay", x.count(2), 40);
        Checks.due("undo asked again", x.undo(), NO);
    }

    @Sentence(of = {11, 28}, words = "the last 8 can be")
    static void theLast8CanBeUndone() {
        for (int acts = 1; acts <= 26; acts++) {
            SpeaksForTheChair x = new SpeaksForTheChair();
            for (int i = 1; i <= acts; i++) {
                x.carry(0, i % 4);
            }
            int can = Math.min(acts, 8);
            Checks.due("can be undone after " + acts, x.count(8), can);
            for (int i = 1; i <= can; i++) {
                Checks.due("undo " + i + " of " + acts, x.undo(), can - i);
                Checks.due("room then", x.piece(0, 1), (acts - i) % 4);
            }
            Checks.due("undo one more of " + acts, x.undo(), NO);
            Checks.due("the room of what fell out", x.piece(0, 1), (acts - can) % 4);
        }
    }

    @Sentence(of = 11, words = "the last 8 can be")
    static void undoneOnesMakeRoom() {
        SpeaksForTheChair x = new SpeaksForTheChair();
        for (int i = 1; i <= 8; i++) {
            x.carry(0, i % 4);
        }
        for (int i = 1; i <= 3; i++) {
            x.undo();
        }
        Checks.due("five can be", x.count(8), 5);
        x.carry(0, 2);
        x.carry(0, 0);
        x.carry(0, 3);
        Checks.due("eight can be", x.count(8), 8);
        x.carry(0, 2);
        Checks.due("eight can be, the first has fallen out", x.count(8), 8);
        int[] rooms = {3, 0, 2, 1, 0, 3, 2, 1};
        for (int i = 0; i < 8; i++) {
            Checks.due("undo", x.undo(), 7 - i);
            Checks.due("room", x.piece(0, 1), rooms[i]);
        }
        Checks.due("undo no more", x.undo(), NO);
    }

    @Sentence(of = 11, words = "(such by which nothing becomes another, too; the last 8 can be)")
    static void anActThatLetsNothingComeOutIsUndoneToo() {
        SpeaksForTheChair x = new SpeaksForTheChair();
        x.speak(6);
        Checks.due("can be undone", x.count(8), 1);
        x.buy(2);
        Checks.due("undo", x.undo(), 1);
        Checks.due("undo of a speech about nothing", x.undo(), 0);
        Checks.due("still", x.piece(6, 3), 0);
        SpeaksForTheChair free = Checks.laid("p0,0,0;m9;");
        Checks.due("buy for nothing", free.buy(0), 9);
        Checks.due("can be undone, for nothing", free.count(8), 1);
        Checks.due("undo", free.undo(), 0);
        Checks.due("still, for nothing", free.piece(0, 3), 0);
    }

    @Sentence(of = 11, words = "UNDONE is the latest of these")
    static void eachKindOfActIsUndone() {
        SpeaksForTheChair x = Houses.eight(99);
        x.speak(0);
        x.speak(7);
        x.buy(1);
        x.buy(6);
        x.carry(1, 3);
        x.carry(7, 0);
        x.carry(5, 0);
        x.undo();
        Checks.due("carried back", x.piece(5, 1), 2);
        Checks.due("a spoken one was not carried", x.piece(7, 1), 3);
        x.undo();
        Checks.due("the bought one carried back", x.piece(1, 1), 0);
        Checks.due("bought yet", x.piece(1, 3), 1);
        x.undo();
        Checks.due("the last is still", x.piece(6, 3), 0);
        Checks.due("coins", x.count(2), 97);
        x.undo();
        Checks.due("none is bought", x.count(4), 0);
        Checks.due("all coins", x.count(2), 99);
        x.undo();
        Checks.due("it has not come out", x.deed(7, 4), 0);
        Checks.due("the first has come out yet", x.deed(0, 4), 1);
        x.undo();
        Checks.due("nothing has come out", x.count(6), 0);
        Checks.due("no more", x.undo(), NO);
    }

    @Sentence(of = 11, words = "Of several the first in this order; nothing changes then.")
    static void refusedActsAreNotUndone() {
        SpeaksForTheChair x = Houses.livedIn();
        x.speak(0);
        x.speak(7);
        x.buy(1);
        x.buy(5);
        x.carry(3, 2);
        x.carry(6, 3);
        x.carry(6, 4);
        Checks.due("can be undone", x.count(8), 4);
        Checks.due("undo", x.undo(), 3);
        Checks.due("carried back by it", x.piece(6, 1), 2);
    }

    @Sentence(of = {5, 11, 27}, words = "nothing is UNDONE then")
    static void nothingIsUndoneBehindLayOrBack() {
        SpeaksForTheChair x = Houses.livedIn();
        x.back();
        Checks.due("behind back", x.undo(), NO);
        x.carry(0, 1);
        Checks.due("an act behind back", x.undo(), 0);
        x.carry(0, 1);
        x.lay();
        Checks.due("behind lay", x.undo(), NO);
        x.carry(0, 0);
        Checks.due("an act behind lay", x.undo(), 0);
        Checks.due("room", x.piece(0, 1), 1);
    }
}
