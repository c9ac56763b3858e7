/** Terms 3, promises 23 to 38: partings, fees, when, lending, laws, days, trays, images at their bounds. */
public final class WhatIfBoundsTest {
    private static final Check CHECK = new Check("WhatIfBoundsTest");

    public static void main(String[] args) {
        thirtyPounds();
        asManyPieces();
        likeOnes();
        noRoom();
        othersAsTheyAre();
        settled();
        settledRounds();
        theFee();
        feeWhateverItBe();
        whenLatest();
        whenLeast();
        heaviest();
        lending();
        laws();
        fits();
        dayMinutes();
        dayPieces();
        dayDraws();
        days();
        cuts();
        pours();
        images();
        fiveHundredAndTwelve();
        CHECK.end();
    }

    private static void way(String name, LightestSack x, int s, int n, int price, int... pounds) {
        CHECK.due(name + ": price", x.parting(s, n, 0), price);
        CHECK.due(name + ": pieces", x.parting(s, n, 1), pounds.length);
        for (int k = 0; k < 6; k++) {
            CHECK.due(name + ": piece " + k, x.parting(s, n, 10 + k), k < pounds.length ? pounds[k] : -1);
        }
    }

    private static void spent(String name, LightestSack x, int s, int n) {
        for (int what : new int[] {0, 1, 10, 11, 12, 13, 14, 15}) {
            CHECK.due(name + ": " + what, x.parting(s, n, what), -2);
        }
    }

    private static void thirtyPounds() {
        LightestSack x = Check.with("stone 1;stone 1;sack 30 of 0 at 0;");
        way("30 pounds, n 1", x, 0, 1, 30, 30);
        way("30 pounds, n 2", x, 0, 2, 15, 15, 15);
        way("30 pounds, n 6", x, 0, 6, 15, 15, 15);
        Check.mill(x, "stone 1;stone 1;sack 31 of 0 at 0;");
        way("31 pounds, n 1", x, 0, 1, 31, 31);
        for (int n = 2; n <= 6; n++) {
            spent("31 pounds, n " + n, x, 0, n);
        }
        Check.mill(x, "stone 1;stone 1;sack 99 of 0 at 0;sack 1 of 0 at 0;");
        spent("99 pounds, n 6", x, 0, 6);
        way("the other one isn't spent", x, 1, 6, 1, 1);
        Check.part(x, 0, 0, 50, 49);
        way("99 pounds in two, n 1", x, 0, 1, 99, 99);
        spent("99 pounds in two, n 2", x, 0, 2);
    }

    /** Three stones: up to so many pieces, as few as bring the same, and never more than pounds. */
    private static void asManyPieces() {
        LightestSack x = Check.with("stone 1;stone 1;stone 1;sack 30 of 0 at 0;");
        way("n 1", x, 0, 1, 30, 30);
        way("n 2", x, 0, 2, 15, 15, 15);
        way("n 3", x, 0, 3, 10, 10, 10, 10);
        way("n 4", x, 0, 4, 10, 10, 10, 10);
        way("n 6", x, 0, 6, 10, 10, 10, 10);
        Check.mill(x, "stone 1;stone 1;stone 1;sack 1 of 0 at 0;sack 2 of 0 at 9;");
        way("one pound", x, 0, 6, 1, 1);
        way("two pounds", x, 1, 6, 1, 1, 1);
        // The lighter pieces go first, the fast stone takes what the slow one leaves.
        Check.mill(x, "stone 1;stone 5;sack 6 of 0 at 0;");
        Check.law(x, "by heavy;");
        way("five and one", x, 0, 6, 5, 5, 1);
        Check.law(x, "by light;");
        way("slow for the heavier one", x, 0, 2, 6, 6);
        way("one pound of three for the slow one", x, 0, 3, 5, 4, 1, 1);
    }

    private static void likeOnes() {
        // Of two stones one is free at once, the other from 4 on: 7 and 2, 6 and 3 bring 7.
        LightestSack x = Check.with("stone 1;stone 1;sack 4 of 0 at 0;sack 9 of 0 at 0;", "");
        way("the greater first piece", x, 1, 2, 7, 7, 2);
        way("the fewest pieces", x, 1, 6, 7, 7, 2);
        Check.mill(x, "stone 1;stone 1;stone 1;sack 10 of 0 at 0;");
        way("the greater second piece", x, 0, 3, 4, 4, 4, 2);
        Check.mill(x, "fee 4;stone 1;stone 1;sack 10 of 0 at 0;");
        way("a lesser price by one", x, 0, 6, 13, 5, 5);
        Check.mill(x, "fee 5;stone 1;stone 1;sack 10 of 0 at 0;");
        way("a like price: whole", x, 0, 6, 15, 10);
        Check.mill(x, "fee 6;stone 1;stone 1;sack 10 of 0 at 0;");
        way("a greater price", x, 0, 6, 16, 10);
        Check.mill(x, "fee 45;stone 1;stone 1;sack 10 of 0 at 0 worth 9;");
        way("worth 9, a like price", x, 0, 6, 135, 10);
        Check.mill(x, "fee 44;stone 1;stone 1;sack 10 of 0 at 0 worth 9;");
        way("worth 9, a lesser one", x, 0, 6, 133, 5, 5);
        Check.mill(x, "sack 6 of 0 at 0;");
        way("no use of parting", x, 0, 6, 6, 6);
    }

    private static void noRoom() {
        LightestSack x = Check.with("stone 1;stone 1;stone 1;" + "sack 8 of 0 at 0;".repeat(23)
                + "sack 9 of 1 at 300;");
        for (int s = 0; s < 4; s++) {
            Check.part(x, s, 0, 1, 1, 1, 1, 1, 1, 1, 1);
        }
        CHECK.due("52 pieces", x.count(5), 52);
        way("52 pieces", x, 23, 6, 3, 3, 3, 3);
        CHECK.due("58 pieces", Check.part(x, 4, 0, 2, 1, 1, 1, 1, 1, 1), 58);
        way("58 pieces: two more", x, 23, 6, 3, 3, 3, 3);
        CHECK.due("59 pieces", Check.part(x, 5, 0, 4, 4), 59);
        way("59 pieces: one more", x, 23, 6, 5, 5, 4);
        CHECK.due("60 pieces", Check.part(x, 6, 0, 4, 4), 60);
        way("60 pieces: none more", x, 23, 6, 9, 9);
        way("60 pieces, n 1", x, 23, 1, 9, 9);
        CHECK.due("60 still", x.count(5), 60);
        Check.part(x, 6, 0, 8);
        Check.part(x, 23, 0, 5, 4);
        CHECK.due("60 pieces, two its own", x.count(5), 60);
        way("its own ones are free", x, 23, 6, 5, 5, 4);
        Check.part(x, 5, 0, 8);
        way("59 pieces, two its own", x, 23, 6, 3, 3, 3, 3);
    }

    private static void othersAsTheyAre() {
        LightestSack x = Check.with("stone 1;stone 1;sack 4 of 0 at 0;sack 6 of 0 at 0;", "");
        way("beside a whole one", x, 1, 2, 5, 5, 1);
        Check.part(x, 0, 0, 2, 2);
        way("beside two pieces", x, 1, 2, 5, 3, 3);
        Check.part(x, 1, 0, 1, 1, 1, 1, 1, 1);
        way("its own parting doesn't count", x, 1, 2, 5, 3, 3);
        CHECK.due("and stays", x.sack(1, 6), 6);
    }

    private static void settled() {
        LightestSack x = new LightestSack();
        for (int n = 1; n <= 3; n++) {
            CHECK.due("no sacks, n " + n, x.settle(n), 1);
        }
        String sack = "sack 2 of 0 at 0;";
        for (int n = 1; n <= 3; n++) {
            Check.mill(x, "stone 1;stone 1;" + sack.repeat(12));
            CHECK.due("12 sacks, n " + n, x.settle(n) > 0 ? 1 : 0, 1);
            Check.mill(x, "stone 1;stone 1;" + sack.repeat(13));
            Check.part(x, 3, 0, 1, 1);
            CHECK.due("13 sacks, n " + n, x.settle(n), -2);
            CHECK.due("13 sacks: nothing is parted, n " + n, x.count(5), 14);
            Check.mill(x, "stone 1;stone 1;sack 30 of 0 at 0;");
            CHECK.due("30 pounds, n " + n, x.settle(n), n == 1 ? 1 : 2);
            CHECK.due("30 pounds, pieces, n " + n, x.count(5), n == 1 ? 1 : 2);
            Check.mill(x, "stone 1;stone 1;sack 31 of 0 at 0;sack 4 of 0 at 0;");
            CHECK.due("31 pounds, n " + n, x.settle(n), -2);
            CHECK.due("31 pounds: nothing is parted, n " + n, x.count(5), 2);
            Check.mill(x, "stone 1;stone 1;sack 4 of 0 at 0;sack 31 of 0 at 0;");
            CHECK.due("31 pounds at last, n " + n, x.settle(n), -2);
        }
        Check.mill(x, "stone 1;stone 1;fee 1;sack 4 of 0 at 0;");
        CHECK.due("a lesser price", x.settle(2), 2);
        CHECK.due("in two", x.count(5), 2);
        CHECK.due("settled already", x.settle(2), 1);
        Check.mill(x, "stone 1;stone 1;fee 2;sack 4 of 0 at 0;");
        CHECK.due("a like price", x.settle(2), 1);
        CHECK.due("as it is", x.count(5), 1);
        Check.part(x, 0, 0, 2, 2);
        CHECK.due("a like price, whole", x.settle(2), 1);
        CHECK.due("as it is, parted", x.count(5), 2);
        Check.part(x, 0, 0, 1, 3);
        CHECK.due("parted worse", x.settle(2), 2);
        CHECK.due("whole of like ones", x.count(5), 1);
        Check.part(x, 0, 0, 1, 1, 1, 1);
        CHECK.due("n 1 makes whole", x.settle(1), 2);
        CHECK.due("one piece", x.count(5), 1);
    }

    private static void settledRounds() {
        LightestSack x = Check.with("stone 1;clean 4;fee 5;sack 11 of 2 at 4 worth 3;"
                + "sack 11 of 0 at 3 worth 3;sack 5 of 2 at 3 sort 2 worth 2;", "by same;by same;by light;");
        CHECK.due("an end in the tenth round", x.settle(2), 10);
        CHECK.due("nobody would then", x.settle(2), 1);
        for (int s = 0; s < 3; s++) {
            int price = x.sack(s, 4) * x.waits(s) + x.count(3) * x.sack(s, 6);
            CHECK.due("no lesser price for " + s, x.parting(s, 2, 0) >= price ? 1 : 0, 1);
        }
        Check.mill(x, "stone 3;stone 2;clean 5;fee 4;sack 14 of 0 at 3 sort 2 worth 2;"
                + "sack 7 of 2 at 0 sort 1 worth 2;sack 8 of 0 at 0 sort 1 worth 2;"
                + "sack 3 of 2 at 5 worth 4;");
        Check.law(x, "by light;by early;");
        Check.part(x, 3, 0, 1, 2);
        CHECK.due("from these pieces on there's no end either", x.settle(3), -2);
        CHECK.due("as it was: sack 3", x.sack(3, 6), 2);
        CHECK.due("as it was: its first piece", x.piece(3, 1), 1);
        CHECK.due("as it was: all", x.count(5), 5);
        x.whole();
        CHECK.due("an end in the eleventh were too late", x.settle(3), -2);
        CHECK.due("nothing is parted", x.whole(), 0);
        Check.mill(x, "clean 1;fee 2;sack 9 of 0 at 1;sack 7 of 1 at 1 sort 1;");
        Check.law(x, "by light;");
        Check.part(x, 1, 0, 6, 1);
        CHECK.due("no end at all", x.settle(3), -2);
        CHECK.due("parted as before", x.piece(1, 1) * 10 + x.piece(2, 1), 61);
    }

    /** By the fee none would be parted, by one less one would. */
    private static void theFee() {
        String[] sacks = {"sack 30 of 0 at 0;sack 7 of 1 at 2 worth 2;", "sack 5 of 0 at 0 worth 9;",
            "sack 9 of 0 at 0;sack 9 of 1 at 3 sort 1 worth 3;clean 2;", "sack 2 of 0 at 0;",
            "sack 31 of 0 at 0 worth 9;sack 6 of 0 at 0 worth 2;", "sack 30 of 0 at 0 worth 3;"};
        for (String some : sacks) {
            for (int n = 2; n <= 3; n++) {
                LightestSack x = Check.with("stone 1;stone 1;stone 2;" + some);
                int fee = x.fee(n);
                String name = some + " fee(" + n + ") " + fee;
                CHECK.due(name + " is above 0", fee > 0 && fee <= 99 ? 1 : 0, 1);
                CHECK.due(name + " lasts", anyParts(some, n, fee), 0);
                CHECK.due(name + " less one doesn't", anyParts(some, n, fee - 1), 1);
            }
        }
        LightestSack x = new LightestSack();
        CHECK.due("no sacks, fee(2)", x.fee(2), 0);
        CHECK.due("no sacks, fee(3)", x.fee(3), 0);
        Check.mill(x, "sack 9 of 0 at 0;fee 50;");
        CHECK.due("nobody would anyway", x.fee(3), 0);
    }

    private static int anyParts(String sacks, int n, int fee) {
        LightestSack x = Check.with("stone 1;stone 1;stone 2;" + sacks + "fee " + fee + ";");
        int any = 0;
        for (int s = 0; s < x.count(4); s++) {
            if (x.sack(s, 0) <= 30 && x.parting(s, n, 0) < x.sack(s, 4) * x.waits(s) + fee) {
                any = 1;
            }
        }
        return any;
    }

    private static void feeWhateverItBe() {
        LightestSack x = Check.with("stone 9;stone 9;sack 30 of 0 at 0 worth 9;fee 3;");
        CHECK.due("far above 99", x.fee(2), 9 * 135);
        CHECK.due("the mill's own fee doesn't count", x.count(3), 3);
        Check.mill(x, "stone 9;stone 9;sack 31 of 0 at 0 worth 9;");
        CHECK.due("31 pounds", x.fee(2), 0);
        Check.mill(x, "stone 2;stone 2;stone 2;sack 9 of 0 at 0;");
        // Whole 18; in two 10, so 8; in three 6, so 12 by two fees, 6.
        CHECK.due("in two", x.fee(2), 8);
        CHECK.due("in three at most", x.fee(3), 8);
        Check.mill(x, "stone 1;stone 1;stone 1;sack 3 of 0 at 0;sack 2 of 0 at 9;");
        CHECK.due("the greatest of two", x.fee(2), 1);
        Check.part(x, 0, 0, 1, 1, 1);
        CHECK.due("all sacks being whole", x.fee(2), 1);
        CHECK.due("they stay parted", x.count(5), 4);
        // Sack 1 goes first: whole it leaves sack 0 a gain of 1, in two it would leave one of 3.
        Check.mill(x, "stone 1;stone 1;sack 6 of 0 at 0;sack 4 of 0 at 0 home 0;");
        Check.law(x, "by due;");
        Check.part(x, 1, 0, 2, 2);
        CHECK.due("the others being whole, too", x.fee(2), 2);
        Check.law(x, "by light;");
        // In two the slow stone gets the heavier one; three pieces gain 3 by two fees.
        Check.mill(x, "stone 1;stone 2;sack 9 of 0 at 0;");
        CHECK.due("no gain in two", x.fee(2), 0);
        CHECK.due("a broken share is a whole fee", x.fee(3), 2);
        way("by no fee", x, 0, 3, 6, 5, 3, 1);
        Check.mill(x, "stone 1;stone 2;fee 1;sack 9 of 0 at 0;");
        way("by one less", x, 0, 3, 9, 5, 3, 1);
        Check.mill(x, "stone 1;stone 2;fee 2;sack 9 of 0 at 0;");
        way("by the fee", x, 0, 3, 11, 9);
    }

    private static void whenLatest() {
        int[] homes = {0, 4, 5, 6, 604, 605, 606, 999};
        int[] due = {-1, -1, 0, 1, 599, 600, 600, 600};
        for (int i = 0; i < homes.length; i++) {
            LightestSack x = Check.with("sack 5 of 0 at 300 home " + homes[i] + ";");
            CHECK.due("home at " + homes[i], x.when(0, 0), due[i]);
            CHECK.due("it comes as before", x.sack(0, 2), 300);
        }
        LightestSack x = Check.with("sack 99 of 0 at 0;stone 9;");
        CHECK.due("never late", x.when(0, 0), 600);
        // In time at 0 alone and again from 9 on: the latest counts.
        Check.mill(x, "sack 9 of 0 at 1;sack 5 of 0 at 0 home 16;");
        CHECK.due("the latest of several", x.when(1, 0), 11);
        Check.part(x, 1, 0, 2, 3);
        CHECK.due("as it is parted", x.when(1, 0), 11);
    }

    private static void whenLeast() {
        LightestSack x = Check.with("sack 5 of 0 at 300;");
        CHECK.due("the first of like ones", x.when(0, 1), 0);
        Check.mill(x, "sack 5 of 0 at 0;sack 9 of 0 at 0;");
        CHECK.due("behind the other one", x.when(1, 1), 5);
        Check.mill(x, "stone 9;sack 66 of 0 at 0;sack 99 of 0 at 0;");
        CHECK.due("at 594", x.when(1, 1), 594);
        Check.mill(x, "stone 9;sack 66 of 0 at 6;sack 99 of 0 at 6;");
        CHECK.due("at 0: ahead of it", x.when(1, 1), 0);
        Check.mill(x, "stone 9;sack 67 of 0 at 0;sack 99 of 0 at 0;");
        CHECK.due("at 600, the last one told", x.when(1, 1), 600);
        Check.mill(x, "stone 9;sack 99 of 0 at 0;sack 99 of 0 at 0;");
        CHECK.due("at 600, not at all done", x.when(1, 1), 600);
    }

    private static void heaviest() {
        int[] homes = {0, 1, 2, 50, 98, 99, 100, 999};
        int[] due = {-1, 1, 2, 50, 98, 99, 99, 99};
        for (int i = 0; i < homes.length; i++) {
            LightestSack x = Check.with("sack 7 of 0 at 0 home " + homes[i] + ";");
            CHECK.due("home at " + homes[i], x.heaviest(0), due[i]);
            CHECK.due("it weighs as before", x.sack(0, 0), 7);
        }
        LightestSack x = Check.with("sack 7 of 0 at 0;stone 9;");
        CHECK.due("never late", x.heaviest(0), 99);
        Check.mill(x, "stone 1;stone 1;sack 8 of 0 at 0 home 4;");
        Check.part(x, 0, 0, 4, 4);
        CHECK.due("in time in pieces", x.total(2), 0);
        CHECK.due("whole", x.heaviest(0), 4);
        CHECK.due("in pieces still", x.count(5), 2);
        Check.mill(x, "sack 3 of 0 at 0;sack 1 of 0 at 0 home 3;");
        Check.law(x, "by heavy;");
        CHECK.due("as a light one late, as a heavy one, too", x.heaviest(1), -1);
        // In time with 1 and 2 pounds, late with 3, ahead of the other one with 4 and 5.
        Check.mill(x, "sack 3 of 0 at 0;sack 1 of 0 at 0 home 5;");
        CHECK.due("the most, not the first", x.heaviest(1), 5);
        CHECK.due("one pound is in time as well", x.total(2), 0);
    }

    private static void lending() {
        LightestSack x = Check.with("sack 5 of 0 at 0 worth 2;sack 95 of 0 at 0;");
        CHECK.due("as it is", x.total(1), 110);
        CHECK.due("lend 1", x.lend(0, 1, 1), -2);
        CHECK.due("lend 4: it leaves one, the other one has 99", x.lend(0, 1, 4), -8);
        CHECK.due("back, 94: it leaves one", x.lend(1, 0, 94), 1 * 1 + 2 * 100 - 110);
        CHECK.due("back, 90", x.lend(1, 0, 90), 5 + 2 * 100 - 110);
        CHECK.due("pounds stay", x.sack(0, 0) * 100 + x.sack(1, 0), 595);
        Check.part(x, 0, 0, 5);
        CHECK.due("parted into one piece is whole", x.lend(0, 1, 1), -2);
    }

    private static void laws() {
        LightestSack x = Check.with("sack 5 of 0 at 0;sack 5 of 0 at 0;", "");
        for (int key = 0; key < 8; key++) {
            CHECK.due("all alike: by " + key, x.by(key), 15);
        }
        CHECK.due("the first of like ones", x.bestLaw(), 0);
        Check.mill(x, "sack 5 of 0 at 0;sack 4 of 0 at 0 worth 9;");
        int[] due = {36 + 9, 5 + 81, 86, 86, 45, 86, 86, 86};
        for (int key = 0; key < 8; key++) {
            CHECK.due("by " + key, x.by(key), due[key]);
        }
        CHECK.due("light ahead of dear", x.bestLaw(), 0);
        Check.law(x, "small 5;by heavy then late;");
        CHECK.due("small stays: light", x.by(0), 86);
        CHECK.due("small stays: dear is the best", x.bestLaw(), 4);
        Check.mill(x, "sack 9 of 0 at 0 sort 1;sack 9 of 0 at 0;sack 9 of 0 at 0 sort 1;clean 60;");
        Check.law(x, "small 9;");
        CHECK.due("same is the best", x.bestLaw(), 7);
        CHECK.due("the law has no keys still", x.count(6), 0);
        // By the lesser number alone it would be 39, which none of the keys brings.
        Check.mill(x, "sack 6 of 0 at 0 sort 1;sack 2 of 0 at 5 worth 2 home 2;"
                + "sack 3 of 1 at 0 sort 1 home 1;sack 9 of 1 at 4 sort 1;");
        Check.law(x, "");
        CHECK.due("without keys", x.total(1), 39);
        CHECK.due("by light", x.by(0), 40);
        CHECK.due("by same", x.by(7), 59);
        CHECK.due("of the eight keys", x.bestLaw(), 0);
        Check.mill(x, "");
        CHECK.due("no sacks", x.bestLaw(), 0);
        CHECK.due("no sacks: cost", x.by(7), 0);
    }

    private static void fits() {
        LightestSack x = Check.with("sack 5 of 0 at 0;");
        Check.lay(x, 0, 0);
        CHECK.due("one piece fits all", x.fits(0), 255);
        Check.lay(x, 0, 1);
        CHECK.due("no order", x.fits(0), 0);
        Check.lay(x, 0);
        CHECK.due("too few", x.fits(0), 0);
        Check.lay(x, 0, 0, 0);
        CHECK.due("too many", x.fits(0), 0);
        String[] two = {"sack 2 of 0 at 0;sack 1 of 0 at 0;", "sack 1 of 0 at 0;sack 2 of 0 at 0;",
            "sack 1 of 0 at 0;sack 1 of 0 at 0 worth 2;", "sack 1 of 0 at 0;sack 1 of 0 at 0 home 5;"};
        int[] bits = {1 | 1 << 4, 1 << 1, 1 << 4, 1 << 5};
        Check.lay(x, 0, 1, 0);
        for (int i = 0; i < two.length; i++) {
            Check.mill(x, two[i]);
            CHECK.due(two[i] + " fits", x.fits(0), bits[i]);
        }
        Check.mill(x, "sack 9 of 0 at 0;sack 1 of 0 at 2;sack 1 of 0 at 1;");
        Check.lay(x, 0, 0, 2, 1);
        CHECK.due("early alone", x.fits(0), 1 << 2);
        Check.mill(x, "sack 9 of 0 at 0;sack 1 of 0 at 1;sack 1 of 0 at 2;");
        CHECK.due("late alone", x.fits(0), 1 << 3);
        Check.mill(x, "sack 1 of 0 at 0;sack 1 of 0 at 0;sack 1 of 1 at 0;");
        CHECK.due("turn alone", x.fits(0), 1 << 6);
        Check.mill(x, "sack 1 of 0 at 0 sort 1;sack 1 of 0 at 0;sack 1 of 0 at 0 sort 1;");
        CHECK.due("same alone", x.fits(0), 1 << 7);
        CHECK.due("cost of it", x.cost(0), 6);
    }

    private static int draw(int x) {
        return 1103515245 * x + 12345;
    }

    /** The minutes at which strangers come by a seed, while there is room. */
    private static boolean[] minutes(int seed, int come) {
        boolean[] comes = new boolean[400];
        int x = seed;
        for (int minute = 0; minute < 400; minute++) {
            x = draw(x);
            if ((x >>> 16) % 100 < come) {
                comes[minute] = true;
                x = draw(x);
            }
        }
        return comes;
    }

    private static int many(boolean[] comes, int from, int to) {
        int many = 0;
        for (int minute = from; minute < to; minute++) {
            many += comes[minute] ? 1 : 0;
        }
        return many;
    }

    /** From 0 to 299: a lighter one that comes at 299 is one ahead, one that came at 300 wouldn't be. */
    private static void dayMinutes() {
        LightestSack x = Check.with("sack 99 of 0 at 0;sack 2 of 0 at 299;sack 3 of 0 at 300;stone 3;");
        int seen299 = 0;
        int seen300 = 0;
        int seen0 = 0;
        for (int seed = -4000; seed < 4000 && (seen299 == 0 || seen300 == 0); seed++) {
            boolean[] comes = minutes(seed, 1);
            if (many(comes, 0, 299) == 0 && comes[299]) {
                seen299++;
                CHECK.due("at 299 by " + seed, x.day(1, seed, 1, 1), 3 + 6);
                CHECK.due("at 299 by " + seed + ", the next one", x.day(2, seed, 1, 1), 2 + 6 + 9);
            } else if (many(comes, 0, 300) == 0 && comes[300]) {
                seen300++;
                CHECK.due("at 300 by " + seed, x.day(1, seed, 1, 1), 6);
                CHECK.due("at 300 by " + seed + ", the next one", x.day(2, seed, 1, 1), 5 + 9);
            }
        }
        CHECK.due("a seed for 299 was found", seen299 > 0 ? 1 : 0, 1);
        CHECK.due("a seed for 300 was found", seen300 > 0 ? 1 : 0, 1);
        Check.mill(x, "sack 9 of 0 at 0;");
        for (int seed = 0; seed < 400 && seen0 < 2; seed++) {
            boolean[] comes = minutes(seed, 1);
            if (comes[0]) {
                seen0++;
                CHECK.due("at 0 by " + seed, x.day(0, seed, 1, 1), 10);
            }
        }
        CHECK.due("seeds for 0 were found", seen0, 2);
    }

    /** As long as there are fewer than 60 pieces, the mill's own ones among them. */
    private static void dayPieces() {
        LightestSack x = Check.with("sack 8 of 0 at 0;".repeat(23) + "sack 99 of 0 at 200;", "by light;");
        CHECK.due("36 strangers", x.day(23, 1, 100, 1), 8 * 23 + 36 - 200 + 99);
        for (int s = 0; s < 5; s++) {
            Check.part(x, s, 0, 1, 1, 1, 1, 1, 1, 1, 1);
        }
        CHECK.due("59 pieces", x.count(5), 59);
        CHECK.due("one stranger", x.day(5, 1, 100, 1), 5 * 8 + 1 + 8);
        CHECK.due("59 pieces: the day without any", x.day(5, 1, 0, 1), 5 * 8 + 8);
        Check.part(x, 5, 0, 4, 4);
        CHECK.due("60 pieces: none", x.day(23, 1, 100, 1), 99);
        CHECK.due("nor on many days", x.days(23, 30, 100, 1, 0), 99);
        CHECK.due("no stranger stays", x.count(5), 60);
        CHECK.due("no stranger is a sack", x.count(4), 24);
        // Numbered behind all others, of person 7, never home, of worth 1 and sort 0.
        Check.mill(x, "sack 1 of 0 at 0;sack 1 of 0 at 0;clean 9;");
        CHECK.due("lesser numbers first", x.day(1, 1, 100, 1), 2);
        Check.law(x, "by turn;");
        CHECK.due("another person's turn", x.day(1, 1, 100, 1), 3);
        Check.mill(x, "sack 1 of 7 at 0;sack 1 of 7 at 0;");
        CHECK.due("of person 7", x.day(1, 1, 100, 1), 2);
        Check.law(x, "by due;");
        Check.mill(x, "sack 1 of 0 at 1 home 999;");
        CHECK.due("never home", x.day(0, 1, 100, 9) < 12 ? 1 : 0, 1);
        Check.law(x, "by dear;");
        Check.mill(x, "sack 99 of 0 at 0 worth 1;");
        CHECK.due("of worth 1", x.day(0, 1, 100, 1), 59 + 99);
        Check.mill(x, "sack 1 of 0 at 0;sack 1 of 0 at 0;");
        CHECK.due("of no more worth", x.day(1, 1, 100, 1), 2);
        Check.law(x, "by same;");
        Check.mill(x, "clean 60;sack 1 of 0 at 0;sack 1 of 0 at 0 sort 1;");
        CHECK.due("of sort 0", x.day(1, 1, 100, 1), 1 + 58 + 60 + 1);
    }

    /** x wraps round as an int does; a draw is never below 0. */
    private static void dayDraws() {
        LightestSack x = Check.with("sack 1 of 0 at 0;sack 50 of 0 at 0 sort 1;", "by same;");
        int[] seeds = {0, 1, -1, 2, Integer.MAX_VALUE, Integer.MIN_VALUE, 65535, 65536, -65536, 1 << 30};
        int[] comes = {0, 1, 50, 99, 100};
        int[] greatests = {1, 2, 98, 99};
        for (int seed : seeds) {
            for (int come : comes) {
                for (int greatest : greatests) {
                    CHECK.due("day by " + seed + " " + come + " " + greatest,
                            x.day(1, seed, come, greatest), behindStrangers(seed, come, greatest));
                }
            }
        }
        Check.mill(x, "sack 50 of 0 at 0;");
        Check.law(x, "by light;");
        CHECK.due("come 0: none", x.day(0, 12345, 0, 99), 50);
        CHECK.due("by 0: a draw of 0 is below 1", x.day(0, 0, 1, 1), 51);
        CHECK.due("and not below 0", x.day(0, 0, 0, 1), 50);
    }

    /** Behind one pound of their sort all strangers go first, as long as some stand there. */
    private static int behindStrangers(int seed, int come, int greatest) {
        long x = seed & 0xffffffffL;
        int free = 1;
        int strangers = 0;
        for (int minute = 0; minute < 300 && minute <= free; minute++) {
            x = (x * 1103515245L + 12345L) & 0xffffffffL;
            if ((x >> 16) % 100 < come && strangers < 58) {
                x = (x * 1103515245L + 12345L) & 0xffffffffL;
                free += (int) ((x >> 16) % greatest) + 1;
                strangers++;
            }
        }
        return free + 50;
    }

    private static void days() {
        LightestSack x = Check.with("sack 40 of 0 at 0;sack 40 of 0 at 299;");
        for (int s = 0; s < 2; s++) {
            int longest = -1;
            int first = 0;
            int together = 0;
            for (int n = 1; n <= 30; n++) {
                int wait = x.day(s, n, 9, 30);
                together += wait;
                first = wait > longest ? n : first;
                longest = Math.max(longest, wait);
                CHECK.due("longest of " + n, x.days(s, n, 9, 30, 0), longest);
                CHECK.due("first of " + n, x.days(s, n, 9, 30, 1), first);
                CHECK.due("together of " + n, x.days(s, n, 9, 30, 2), together);
            }
        }
        CHECK.due("the first of like ones", x.days(0, 30, 0, 1, 1), 1);
        CHECK.due("seeds from 1 on", x.days(0, 1, 50, 50, 0), x.day(0, 1, 50, 50));
    }

    private static void cuts() {
        LightestSack x = new LightestSack();
        for (int sort = 0; sort < 4; sort++) {
            int bits = 8 << sort;
            long least = -1L << bits - 1;
            long most = ~least;
            x.tray(sort, sort, 60);
            CHECK.due("the most of " + bits, x.write(sort, 0, most), most);
            CHECK.due("one more of " + bits, x.write(sort, 59, most + 1), least);
            CHECK.due("the least of " + bits, x.write(sort, 1, least), least);
            CHECK.due("one less of " + bits, x.write(sort, 58, least - 1), most);
            CHECK.due("-1 of " + bits, x.write(sort, 2, -1), -1);
            CHECK.due("0 of " + bits, x.write(sort, 2, 0), 0);
            CHECK.due("once round " + bits, x.write(sort, 3, bits < 64 ? 5 + (1L << bits) : 5), 5);
        }
        Check.mill(x, "sack 5 of 0 at 0;");
        x.tray(0, 0, 1);
        x.write(0, 0, 256);
        CHECK.due("256 as 8 bits is 0", x.cost(0), 5);
        x.tray(0, 1, 1);
        x.write(0, 0, 256);
        CHECK.due("256 as 16 bits isn't", x.cost(0), -1);
        x.tray(0, 1, 1);
        CHECK.due("laid anew: 0s", x.cost(0), 5);
    }

    private static void pours() {
        LightestSack x = Check.with("sack 5 of 0 at 0;sack 4 of 0 at 0;sack 3 of 0 at 0;");
        for (int sort = 0; sort < 4; sort++) {
            for (int many = 0; many <= 60; many++) {
                x.tray(0, sort, many);
                CHECK.due("pour into " + many, x.pour(0), Math.min(3, many));
                CHECK.due("judged by " + many, x.judge(0, 0), many == 3 ? -1 : Math.min(3, many));
                CHECK.due("cost by " + many, x.cost(0), many == 3 ? 3 + 7 + 12 : -1);
            }
            x = Check.with("sack 5 of 0 at 0;sack 4 of 0 at 0;sack 3 of 0 at 0;");
        }
        x = Check.with("sack 9 of 0 at 0;sack 9 of 0 at 0;");
        Check.lay(x, 0, 7, 7, 9);
        CHECK.due("pour into the first two", x.pour(0), 2);
        CHECK.due("one place too many", x.judge(0, 0), 2);
        Check.mill(x, "sack 17 of 0 at 0;");
        x.write(0, 0, 4);
        x.write(0, 1, 4);
        CHECK.due("what stood behind them stays", x.part(0, 0), 3);
        CHECK.due("as it stood", x.piece(2, 1), 9);
    }

    private static void images() {
        LightestSack x = new LightestSack();
        for (int i = 0; i < 3; i++) {
            int image = i;
            CHECK.dueThrow("none at first " + i, IllegalStateException.class, () -> x.restore(image));
        }
        for (int i = 0; i < 3; i++) {
            Check.mill(x, "sack 5 of 0 at 0;".repeat(i + 1));
            x.image(i);
        }
        for (int i = 2; i >= 0; i--) {
            x.restore(i);
            CHECK.due("image " + i, x.count(4), i + 1);
        }
        Check.part(x, 0, 0, 2, 3);
        x.image(0);
        x.whole();
        x.restore(0);
        CHECK.due("made anew, restored twice", x.count(5), 2);
        x.restore(1);
        CHECK.due("another one", x.count(5), 2);
        CHECK.due("of two sacks", x.count(4), 2);
        x.restore(0);
        CHECK.due("the one again", x.sack(0, 6), 2);
        LightestSack y = new LightestSack();
        y.image(2);
        Check.mill(y, "stone 2;sack 5 of 0 at 0;");
        Check.law(y, "");
        y.restore(2);
        CHECK.due("as at first: keys", y.count(6), 1);
        CHECK.due("as at first: sacks", y.count(4), 0);
        CHECK.due("as at first: stones", y.count(1), 1);
        CHECK.dueThrow("the others aren't made", IllegalStateException.class, () -> y.restore(0));
        Check.mill(y, "sack 5 of 0 at 0;sack 4 of 0 at 0;");
        CHECK.due("light again, pace 1", y.end(1), 4);
    }

    private static void fiveHundredAndTwelve() {
        LightestSack x = Check.with("sack 5 of 0 at 0;sack 4 of 0 at 0;");
        for (int call = 4; call <= 512; call++) {
            CHECK.due("call " + call, call % 2 == 0 ? x.end(0) : x.parting(0, 6, 0) + 4, 9);
        }
    }
}
