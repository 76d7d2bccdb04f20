/** Promises 6 to 8 at their edges: a test for each sentence that names one. */
public final class MatEdgesTest {
    private static final Check CHECK = new Check("MatEdgesTest");
    private static final Edges NEW = new Edges(CHECK, "new", States::nothing);
    private static final Edges SOME = new Edges(CHECK, "some", States::some);
    private static final Edges SHORT = new Edges(CHECK, "one short of full", States::oneShort);
    private static final Edges FULL = new Edges(CHECK, "full", States::full);

    public static void main(String[] args) {
        matsAreTwentyFour();
        layOfNoBins();
        layOfOtherGrams();
        layOfTooLittleForFaces();
        layOfTooLittleForCore();
        layOfTooLittleInOneBin();
        layOfEmptyBins();
        layOfTooLittleGlue();
        layWithoutGlue();
        layAtLimit();
        layAboveLimitOfLittle();
        facesAreCut();
        glueIsCut();
        dampIsCut();
        eldestLotFirst();
        lotJustSpent();
        emptyLotsGiveNone();
        matOfNoneSuch();
        matOfAnotherWhat();
        matOfTheMost();
        matNotPressed();
        recallOfNoLot();
        recallOfNoMats();
        recallOfTheLastLotAndMat();
        CHECK.finish();
    }

    /** Two BINS of new chips with so many GRAMS, and so much glue in a LOT (none for 0). */
    private static Edges stock(int first, int second, int glue) {
        return new Edges(CHECK, first + " and " + second + " in bins, glue " + glue, x -> {
            x.bin(3, false);
            x.bin(9, false);
            x.fill(0, first);
            x.fill(1, second);
            x.lot(glue);
        });
    }

    /** A USED BIN 0 and a new BIN 1, LIMIT as told. */
    private static Edges limited(int limit) {
        return new Edges(CHECK, "LIMIT " + limit, x -> {
            x.bin(0, true);
            x.bin(0, false);
            x.fill(0, 20000);
            x.fill(1, 20000);
            x.lot(5000);
            x.rule(1, limit);
        });
    }

    /** Promise 6: "A MAT is laid: its number. NONE: there are 24". */
    private static void matsAreTwentyFour() {
        SHORT.taken(23, "lay", 0, 0, 10);
        SHORT.taken(23, "lay", 4, 3, 100);
        FULL.refused("lay", 0, 0, 10);
        FULL.refused("lay", 5, 4, 100);
        ChipBoards x = limited(50).fresh();
        for (int mat = 0; mat < 24; mat++) {
            CHECK.due("refused, above LIMIT", x.lay(0, 0, 100), -1);
            CHECK.due("MAT " + mat, x.lay(1, 1, 10 + mat), mat);
        }
        CHECK.due("a 25th", x.lay(1, 1, 10), -1);
        for (int mat = 0; mat < 24; mat++) {
            CHECK.due("g of MAT " + mat, x.mat(mat, 0), 10 + mat);
        }
    }

    /** Promise 6: "NONE: .. there are no such BINS". */
    private static void layOfNoBins() {
        NEW.refused("lay", 0, 0, 10);
        SOME.refusedOutside(0, 0, 1, "lay", 0, 0, 100);
        SOME.refusedOutside(1, 0, 1, "lay", 0, 0, 100);
        SOME.refused("lay", 2, 2, 100);
        SOME.refused("lay", -1, -1, 100);
        SOME.refused("lay", 5, 0, 100);
        SHORT.refusedOutside(0, 0, 4, "lay", 0, 0, 100);
        SHORT.refusedOutside(1, 0, 4, "lay", 0, 0, 100);
        Edges six = new Edges(CHECK, "six bins", x -> {
            States.bins(x, 6);
            States.lots(x, 8);
            x.rule(1, 100);
        });
        six.refusedOutside(0, 0, 5, "lay", 0, 0, 100);
        six.refusedOutside(1, 0, 5, "lay", 0, 0, 100);
        six.taken(0, "lay", 0, 5, 100);
        six.taken(0, "lay", 5, 0, 100);
        six.taken(0, "lay", 5, 5, 100);
    }

    /** Promise 6: "NONE: .. g can't be": it is 10 .. 10000. */
    private static void layOfOtherGrams() {
        Edges much = stock(20000, 20000, 5000);
        much.refusedOutside(2, 10, 10000, "lay", 0, 1, 0);
        much.refusedOutside(2, 10, 10000, "lay", 1, 1, 0);
        much.refused("lay", 0, 0, 0);
        much.refused("lay", 0, 0, -10);
        much.taken(0, "lay", 0, 1, 10);
        much.taken(0, "lay", 1, 0, 10000);
        much.taken(0, "lay", 0, 0, 10000);
        ChipBoards x = much.fresh();
        x.lay(0, 1, 10);
        x.lay(0, 1, 10000);
        CHECK.due("the least g", x.mat(0, 0), 10);
        CHECK.due("the greatest g", x.mat(1, 0), 10000);
        CHECK.due("faces of both", x.count(10), 20000 - 4 - 4000);
        CHECK.due("cores of both", x.count(11), 20000 - 6 - 6000);
    }

    /** Promise 6, Terms 1: "refused if a BIN has too little": that of the faces. */
    private static void layOfTooLittleForFaces() {
        stock(39, 500, 100).refused("lay", 0, 1, 100);
        stock(40, 500, 100).taken(0, "lay", 0, 1, 100);
        stock(500, 39, 100).refused("lay", 1, 0, 100);
        stock(500, 40, 100).taken(0, "lay", 1, 0, 100);
        stock(3999, 9000, 5000).refused("lay", 0, 1, 10000);
        stock(4000, 9000, 5000).taken(0, "lay", 0, 1, 10000);
    }

    /** Promise 6, Terms 1: "refused if a BIN has too little": that of the core. */
    private static void layOfTooLittleForCore() {
        stock(500, 59, 100).refused("lay", 0, 1, 100);
        stock(500, 60, 100).taken(0, "lay", 0, 1, 100);
        stock(59, 500, 100).refused("lay", 1, 0, 100);
        stock(60, 500, 100).taken(0, "lay", 1, 0, 100);
        stock(500, 5, 100).refused("lay", 0, 1, 10);
        stock(500, 6, 100).taken(0, "lay", 0, 1, 10);
        ChipBoards x = stock(40, 60, 10).fresh();
        CHECK.due("just enough of all", x.lay(0, 1, 100), 0);
        CHECK.due("no chips are left", x.count(5), 0);
        CHECK.due("no glue is left", x.count(6), 0);
    }

    /** Promise 6, Terms 1: one BIN for both ("it may be the same") must have both parts. */
    private static void layOfTooLittleInOneBin() {
        stock(99, 500, 100).refused("lay", 0, 0, 100);
        stock(60, 500, 100).refused("lay", 0, 0, 100);
        stock(100, 500, 100).taken(0, "lay", 0, 0, 100);
        stock(500, 99, 100).refused("lay", 1, 1, 100);
        stock(500, 100, 100).taken(0, "lay", 1, 1, 100);
    }

    /** Promise 6, Terms 1: a BIN with nothing in it has too little. */
    private static void layOfEmptyBins() {
        Edges empty = new Edges(CHECK, "empty bins", x -> {
            x.bin(3, false);
            x.bin(3, false);
            x.fill(1, 100);
            x.lot(100);
        });
        empty.refused("lay", 0, 0, 10);
        empty.refused("lay", 0, 1, 10);
        empty.refused("lay", 1, 0, 10);
        empty.taken(0, "lay", 1, 1, 10);
    }

    /** Promise 6, Terms 1: refused if "all LOTS together have too little". */
    private static void layOfTooLittleGlue() {
        stock(500, 500, 9).refused("lay", 0, 1, 100);
        stock(500, 500, 10).taken(0, "lay", 0, 1, 100);
        Edges lots = new Edges(CHECK, "lots of 3, 4 and 5", x -> {
            x.bin(3, false);
            x.fill(0, 1000);
            x.lot(3);
            x.lot(4);
            x.lot(5);
        });
        lots.refused("lay", 0, 0, 130);
        lots.taken(0, "lay", 0, 0, 129);
        Edges last = new Edges(CHECK, "one gram in each of eight lots", x -> {
            x.bin(3, false);
            x.fill(0, 1000);
            for (int lot = 0; lot < 8; lot++) {
                x.lot(1);
            }
        });
        last.refused("lay", 0, 0, 90);
        last.taken(0, "lay", 0, 0, 89);
    }

    /** Terms 1: glue is cut, so a MAT may need none: then no LOT need be there. */
    private static void layWithoutGlue() {
        Edges none = new Edges(CHECK, "no lots, GLUE 1", x -> {
            x.bin(3, false);
            x.fill(0, 1000);
            x.rule(0, 1);
        });
        none.taken(0, "lay", 0, 0, 99);
        none.refused("lay", 0, 0, 100);
        Edges nine = new Edges(CHECK, "no lots, GLUE 9", x -> {
            x.bin(3, false);
            x.fill(0, 1000);
            x.rule(0, 9);
        });
        nine.taken(0, "lay", 0, 0, 11);
        nine.refused("lay", 0, 0, 12);
    }

    /** Terms 1: refused if 100 times what is USED "is above LIMIT * g": not if it is just that. */
    private static void layAtLimit() {
        limited(40).taken(0, "lay", 0, 1, 100);
        limited(39).refused("lay", 0, 1, 100);
        limited(60).taken(0, "lay", 1, 0, 100);
        limited(59).refused("lay", 1, 0, 100);
        limited(100).taken(0, "lay", 0, 0, 100);
        limited(99).refused("lay", 0, 0, 100);
        limited(100).taken(0, "lay", 0, 0, 10000);
        limited(99).refused("lay", 0, 0, 10000);
        limited(40).taken(0, "lay", 0, 1, 10000);
        limited(39).refused("lay", 0, 1, 10000);
        limited(0).taken(0, "lay", 1, 1, 100);
        limited(0).refused("lay", 0, 1, 10);
        limited(0).refused("lay", 1, 0, 10);
    }

    /** Terms 1: by the GRAMS that are given, which are cut: 4 of 12 are 33.3 percent. */
    private static void layAboveLimitOfLittle() {
        limited(33).refused("lay", 0, 1, 12);
        limited(34).taken(0, "lay", 0, 1, 12);
        limited(66).refused("lay", 1, 0, 12);
        limited(67).taken(0, "lay", 1, 0, 12);
    }

    /** Terms 1: faces are "4 tenths of g, cut", the core is "the rest". */
    private static void facesAreCut() {
        int[] g = {10, 12, 13, 14, 15, 9999};
        int[] faces = {4, 4, 5, 5, 6, 3999};
        for (int k = 0; k < g.length; k++) {
            ChipBoards x = stock(20000, 20000, 5000).fresh();
            x.lay(0, 1, g[k]);
            CHECK.due("faces of " + g[k], x.count(10), 20000 - faces[k]);
            CHECK.due("core of " + g[k], x.count(11), 20000 - (g[k] - faces[k]));
        }
    }

    /** Terms 1: glue is "g * GLUE / 100, cut". */
    private static void glueIsCut() {
        int[] percent = {1, 1, 1, 10, 10, 30, 30, 30};
        int[] g = {99, 100, 199, 19, 20, 10, 13, 10000};
        int[] glue = {0, 1, 1, 1, 2, 3, 3, 3000};
        for (int k = 0; k < g.length; k++) {
            ChipBoards x = stock(20000, 20000, 5000).fresh();
            x.rule(0, percent[k]);
            x.lay(0, 1, g[k]);
            String name = percent[k] + " percent of " + g[k];
            CHECK.due(name, x.mat(0, 1), glue[k]);
            CHECK.due(name + ": left", x.count(20), 5000 - glue[k]);
            CHECK.due(name + ": LOTS", x.mat(0, 6), glue[k] == 0 ? 0 : 1);
        }
    }

    /** Terms 1: DAMP is what each BIN gives by its DAMP, "together, by g, cut". */
    private static void dampIsCut() {
        int[][] damps = {{0, 0}, {20, 20}, {1, 0}, {0, 1}, {1, 1}, {2, 2}, {3, 0}, {0, 3}, {4, 1}, {3, 1}, {20, 0}};
        int[] want = {0, 20, 0, 0, 1, 2, 1, 1, 2, 1, 8};
        for (int k = 0; k < want.length; k++) {
            ChipBoards x = new ChipBoards();
            x.bin(damps[k][0], false);
            x.bin(damps[k][1], false);
            x.fill(0, 10);
            x.fill(1, 10);
            x.lot(1);
            x.lay(0, 1, 10);
            CHECK.due("DAMP of 4 by " + damps[k][0] + " and 6 by " + damps[k][1], x.mat(0, 2), want[k]);
        }
    }

    /** Terms 1: glue is "from the LOTS that have some, the eldest first". */
    private static void eldestLotFirst() {
        ChipBoards x = new ChipBoards();
        x.bin(0, false);
        x.fill(0, 1000);
        for (int lot = 0; lot < 8; lot++) {
            x.lot(2);
        }
        for (int mat = 0; mat < 16; mat++) {
            CHECK.due("MAT " + mat, x.lay(0, 0, 10), mat);
            CHECK.due("LOTS of MAT " + mat, x.mat(mat, 6), 1 << mat / 2);
            CHECK.due("left in its LOT", x.count(20 + mat / 2), 1 - mat % 2);
        }
        CHECK.due("all is spent", x.lay(0, 0, 10), -1);
    }

    /** Terms 1: a LOT that has just enough is spent alone; for one gram more the next one gives too. */
    private static void lotJustSpent() {
        int[] g = {90, 100, 110, 150, 160};
        int[] lots = {1, 1, 3, 3, 7};
        int[][] left = {{1, 5, 9}, {0, 5, 9}, {0, 4, 9}, {0, 0, 9}, {0, 0, 8}};
        for (int k = 0; k < g.length; k++) {
            ChipBoards x = new ChipBoards();
            x.bin(0, false);
            x.fill(0, 1000);
            x.lot(10);
            x.lot(5);
            x.lot(9);
            x.lay(0, 0, g[k]);
            CHECK.due("LOTS of " + g[k], x.mat(0, 6), lots[k]);
            for (int lot = 0; lot < 3; lot++) {
                CHECK.due("LOT " + lot + " behind " + g[k], x.count(20 + lot), left[k][lot]);
            }
        }
    }

    /** Terms 1: a LOT that has none is in no later MAT. */
    private static void emptyLotsGiveNone() {
        ChipBoards x = new ChipBoards();
        x.bin(0, false);
        x.fill(0, 1000);
        x.lot(1);
        x.lay(0, 0, 10);
        x.lot(1);
        x.lot(3);
        x.lay(0, 0, 10);
        x.lay(0, 0, 30);
        CHECK.due("LOT 1 alone", x.mat(1, 6), 2);
        CHECK.due("LOT 2 alone", x.mat(2, 6), 4);
        CHECK.due("MATS of LOT 0", x.recall(0), 1);
        CHECK.due("MATS of LOT 1", x.recall(1), 2);
        CHECK.due("MATS of LOT 2", x.recall(2), 4);
    }

    /** Promise 7: "NONE if there is none such". */
    private static void matOfNoneSuch() {
        for (int what = 0; what < 8; what++) {
            NEW.refused("mat", 0, what);
            SOME.refusedOutside(0, 0, 1, "mat", 0, what);
            FULL.refusedOutside(0, 0, 23, "mat", 0, what);
        }
        SHORT.refused("mat", 23, 0);
        SHORT.told(122, "mat", 22, 0);
        FULL.told(123, "mat", 23, 0);
        FULL.told(100, "mat", 0, 0);
    }

    /** Promise 7: "NONE .. for another what" than 0 .. 7. */
    private static void matOfAnotherWhat() {
        SOME.refusedOutside(1, 0, 7, "mat", 0, 0);
        SOME.refusedOutside(1, 0, 7, "mat", 1, 0);
        FULL.refusedOutside(1, 0, 7, "mat", 0, 0);
        FULL.refusedOutside(1, 0, 7, "mat", 22, 0);
        FULL.refusedOutside(1, 0, 7, "mat", 23, 0);
        long[] want = {100, 12, 9, 60, 0, 1, 3, 90};
        for (int what = 0; what < 8; what++) {
            SOME.told(want[what], "mat", 1, what);
        }
    }

    /** Promise 7 of a MAT with the most of all. */
    private static void matOfTheMost() {
        ChipBoards x = new ChipBoards();
        for (int bin = 0; bin < 6; bin++) {
            x.bin(20, true);
        }
        x.fill(5, 10000);
        for (int lot = 0; lot < 8; lot++) {
            x.lot(375);
        }
        x.rule(0, 30);
        x.rule(1, 100);
        x.lay(5, 5, 10000);
        long[] want = {10000, 3000, 20, 10000, 5, 5, 255, -1};
        for (int what = 0; what < 8; what++) {
            CHECK.due("the most: mat(0, " + what + ")", x.mat(0, what), want[what]);
        }
    }

    /** Promise 7: TICKS are "NONE as it was not pressed". */
    private static void matNotPressed() {
        SOME.told(-1, "mat", 0, 7);
        SOME.told(90, "mat", 1, 7);
        FULL.told(-1, "mat", 23, 7);
    }

    /** Promise 8: "NONE: there is none such". */
    private static void recallOfNoLot() {
        NEW.refused("recall", 0);
        SOME.refusedOutside(0, 0, 1, "recall", 0);
        SOME.told(3, "recall", 0);
        SOME.told(2, "recall", 1);
        SHORT.refusedOutside(0, 0, 6, "recall", 0);
        FULL.refusedOutside(0, 0, 7, "recall", 0);
        FULL.refused("recall", 31);
        FULL.refused("recall", 32);
    }

    /** Promise 8 of a LOT that is in no MAT: no bits, not NONE. */
    private static void recallOfNoMats() {
        Edges lots = new Edges(CHECK, "lots alone", x -> States.lots(x, 8));
        for (int lot = 0; lot < 8; lot++) {
            lots.told(0, "recall", lot);
        }
        FULL.told(0, "recall", 7);
    }

    /** Promise 8: "All MATS with glue of a LOT: bits", up to MAT 23 and LOT 7. */
    private static void recallOfTheLastLotAndMat() {
        ChipBoards x = new ChipBoards();
        x.bin(0, false);
        x.fill(0, 1000);
        for (int lot = 0; lot < 8; lot++) {
            x.lot(3);
        }
        for (int mat = 0; mat < 24; mat++) {
            x.lay(0, 0, 10);
        }
        for (int lot = 0; lot < 8; lot++) {
            CHECK.due("MATS of LOT " + lot, x.recall(lot), 7 << 3 * lot);
        }
        ChipBoards y = stock(1000, 1000, 1000).fresh();
        for (int mat = 0; mat < 24; mat++) {
            y.lay(0, 1, 10);
        }
        CHECK.due("all MATS", y.recall(0), 0xffffff);
    }
}
