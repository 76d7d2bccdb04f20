/** Promises 18 to 20 at their edges: a test for each sentence that names one. */
public final class SheetEdgesTest {
    private static final Check CHECK = new Check("SheetEdgesTest");
    private static final Edges NEW = new Edges(CHECK, "new", States::nothing);
    private static final Edges SOME = new Edges(CHECK, "some", States::some);
    private static final Edges SHORT = new Edges(CHECK, "one short of full", States::oneShort);
    private static final Edges FULL = new Edges(CHECK, "full", States::full);

    public static void main(String[] args) {
        sheetsAreSix();
        sheetOfOtherSides();
        sheetOfAnotherWorth();
        sheetOfTheMost();
        sheetCountsAtOnce();
        bestOfNoBoard();
        bestWithoutSheets();
        bestOfTheLeastAndTheGreatest();
        sheetThatJustFits();
        sheetsAreNotTurned();
        partsAreOneAtLeast();
        noPartOfNothing();
        bestThatWasGreater();
        sawBetweenTwoSheets();
        cutsOfNoBoard();
        cutsOfNoSheet();
        cutsOfTheLastSheet();
        lostAheadOfCuts();
        leastNumberOfSheets();
        sheetAheadOfCuts();
        uprightAheadOfLevel();
        leastLeftBoard();
        leastLowerBoard();
        partsInTheSameWay();
        CHECK.finish();
    }

    /** One SHEET and a SAW. */
    private static Edges one(int saw, int w, int h, int worth) {
        return new Edges(CHECK, "SAW " + saw + ", a sheet " + w + " by " + h, x -> {
            x.rule(3, saw);
            x.sheet(w, h, worth);
        });
    }

    private static ChipBoards sheets(int saw, int[]... sheets) {
        ChipBoards x = new ChipBoards();
        x.rule(3, saw);
        for (int[] sheet : sheets) {
            x.sheet(sheet[0], sheet[1], sheet[2]);
        }
        return x;
    }

    /** BEST of a BOARD, how many cuts, then how many of each SHEET. */
    private static void dueWay(String name, ChipBoards x, int w, int h, int... want) {
        String board = name + ": " + w + " by " + h;
        CHECK.due(board + ", best", x.best(w, h), want[0]);
        for (int k = 1; k < want.length; k++) {
            CHECK.due(board + ", cuts of " + (k - 2), x.cuts(w, h, k - 2), want[k]);
        }
    }

    /** Promise 18: "A SHEET: its number. NONE: there are 6". */
    private static void sheetsAreSix() {
        SHORT.taken(5, "sheet", 1, 1, 1);
        SHORT.taken(5, "sheet", 24, 24, 999);
        FULL.refused("sheet", 1, 1, 1);
        FULL.refused("sheet", 24, 24, 999);
        FULL.refused("sheet", 25, 24, 999);
        ChipBoards x = new ChipBoards();
        for (int sheet = 0; sheet < 6; sheet++) {
            CHECK.due("not a SHEET", x.sheet(0, 1, 1), -1);
            CHECK.due("SHEET " + sheet, x.sheet(2, 2, 2), sheet);
        }
        CHECK.due("a seventh", x.sheet(2, 2, 2), -1);
    }

    /** Promise 18: "or other numbers": w and h are 1 .. 24. */
    private static void sheetOfOtherSides() {
        Edges[] states = {NEW, SOME, SHORT};
        for (Edges state : states) {
            state.refusedOutside(0, 1, 24, "sheet", 0, 1, 900);
            state.refusedOutside(1, 1, 24, "sheet", 1, 0, 900);
            state.refused("sheet", 0, 0, 900);
            state.refused("sheet", 25, 25, 900);
        }
        NEW.taken(0, "sheet", 1, 1, 5);
        NEW.taken(0, "sheet", 1, 24, 5);
        NEW.taken(0, "sheet", 24, 1, 5);
        NEW.taken(0, "sheet", 24, 24, 5);
    }

    /** Promise 18: "or other numbers": WORTH is 1 .. 999. */
    private static void sheetOfAnotherWorth() {
        NEW.refusedOutside(2, 1, 999, "sheet", 1, 1, 0);
        SOME.refusedOutside(2, 1, 999, "sheet", 1, 1, 0);
        SHORT.refusedOutside(2, 1, 999, "sheet", 24, 24, 0);
        NEW.taken(0, "sheet", 1, 1, 1);
        NEW.taken(0, "sheet", 1, 1, 999);
    }

    /** Promise 18: the least and the greatest numbers are kept as they are told. */
    private static void sheetOfTheMost() {
        dueWay("the greatest", sheets(1, new int[] {24, 24, 999}), 24, 24, 999, 0, 1);
        dueWay("the greatest", sheets(1, new int[] {24, 24, 999}), 23, 24, 0, 0, 0);
        dueWay("the greatest", sheets(1, new int[] {24, 24, 999}), 24, 23, 0, 0, 0);
        dueWay("the least", sheets(1, new int[] {1, 1, 1}), 1, 1, 1, 0, 1);
    }

    /** Promise 18: from the first SHEET to the last, BEST has it as soon as it is there. */
    private static void sheetCountsAtOnce() {
        ChipBoards x = new ChipBoards();
        dueWay("no SHEET yet", x, 2, 2, 0, 0);
        for (int sheet = 0; sheet < 6; sheet++) {
            CHECK.due("SHEET " + sheet, x.sheet(2, 2, 10 + sheet), sheet);
            CHECK.due("BEST with SHEET " + sheet, x.best(2, 2), 10 + sheet);
            CHECK.due("how many of it", x.cuts(2, 2, sheet), 1);
            CHECK.due("no SHEET: it is too wide", x.sheet(25, 2, 99), -1);
            CHECK.due("BEST as before", x.best(2, 2), 10 + sheet);
        }
    }

    /** Promise 19: "NONE: w, h are not 1 .. 24". */
    private static void bestOfNoBoard() {
        Edges[] states = {NEW, SOME, FULL};
        for (Edges state : states) {
            state.refusedOutside(0, 1, 24, "best", 0, 1);
            state.refusedOutside(0, 1, 24, "best", 0, 24);
            state.refusedOutside(1, 1, 24, "best", 1, 0);
            state.refusedOutside(1, 1, 24, "best", 24, 0);
            state.refused("best", 0, 0);
            state.refused("best", 25, 25);
        }
    }

    /** Promise 19 where no SHEET is there yet: all is lost. */
    private static void bestWithoutSheets() {
        NEW.told(0, "best", 1, 1);
        NEW.told(0, "best", 1, 24);
        NEW.told(0, "best", 24, 1);
        NEW.told(0, "best", 24, 24);
    }

    /** Promise 19 of the least BOARD, and the greatest WORTH that there can be. */
    private static void bestOfTheLeastAndTheGreatest() {
        Edges ones = one(0, 1, 1, 999);
        ones.told(999, "best", 1, 1);
        ones.told(24 * 999, "best", 1, 24);
        ones.told(24 * 999, "best", 24, 1);
        ones.told(576 * 999, "best", 24, 24);
        ones.told(576, "cuts", 24, 24, 0);
        ones.told(575, "cuts", 24, 24, -1);
        FULL.told(10, "best", 3, 7);
    }

    /** Terms 4: a SHEET that is "not wider, not higher than it; the rest is lost". */
    private static void sheetThatJustFits() {
        Edges sheet = one(1, 4, 6, 9);
        sheet.told(9, "best", 4, 6);
        sheet.told(0, "best", 3, 6);
        sheet.told(0, "best", 4, 5);
        sheet.told(9, "best", 5, 6);
        sheet.told(9, "best", 4, 7);
        sheet.told(1, "cuts", 8, 12, 0);
        sheet.told(0, "cuts", 8, 12, -1);
    }

    /** Terms 4: SHEETS "are not turned". */
    private static void sheetsAreNotTurned() {
        Edges sheet = one(0, 24, 1, 9);
        sheet.told(0, "best", 1, 24);
        sheet.told(9, "best", 24, 1);
        sheet.told(0, "best", 23, 24);
        sheet.told(24 * 9, "best", 24, 24);
    }

    /** Terms 4: of two BOARDS "each is 1 at least", SAW 0 .. 3 "is lost between these". */
    private static void partsAreOneAtLeast() {
        for (int saw = 0; saw <= 3; saw++) {
            Edges ones = one(saw, 1, 1, 7);
            ones.told(7, "best", saw + 1, 1);
            ones.told(0, "cuts", saw + 1, 1, -1);
            ones.told(14, "best", saw + 2, 1);
            ones.told(1, "cuts", saw + 2, 1, -1);
            ones.told(7, "best", 1, saw + 1);
            ones.told(0, "cuts", 1, saw + 1, -1);
            ones.told(14, "best", 1, saw + 2);
            ones.told(1, "cuts", 1, saw + 2, -1);
        }
    }

    /** Terms 4: "each is 1 at least": SAW alone is not cut off, at either side. */
    private static void noPartOfNothing() {
        for (int saw = 0; saw <= 3; saw++) {
            Edges sheet = one(saw, 5, 5, 7);
            int two = 10 + saw;
            int more = 10 + 2 * saw;
            sheet.told(14, "best", more, 5);
            sheet.told(1, "cuts", two, 5, -1);
            sheet.told(1, "cuts", more, 5, -1);
            sheet.told(1, "cuts", 5, two, -1);
            sheet.told(1, "cuts", 5, more, -1);
            sheet.told(1, "cuts", 5 + saw, two, -1);
            sheet.told(1, "cuts", two, 5 + saw, -1);
        }
    }

    /** Terms 4: "each is 1 at least": with SAW 0 a BOARD is no part of itself, whatever it was worth before. */
    private static void bestThatWasGreater() {
        ChipBoards x = sheets(0, new int[] {2, 2, 5});
        x.image(0);
        x.sheet(1, 1, 50);
        dueWay("a SHEET more", x, 2, 2, 200, 3, 0, 4);
        x.again(0);
        dueWay("the SHEET is no more", x, 2, 2, 5, 0, 1);
        dueWay("the SHEET is no more", x, 24, 24, 144 * 5, 143, 144);
        dueWay("the SHEET is no more", x, 1, 24, 0, 0, 0);
        dueWay("the SHEET is no more", x, 24, 1, 0, 0, 0);
    }

    /** Terms 4: two SHEETS and SAW, just as wide as the BOARD and one more. */
    private static void sawBetweenTwoSheets() {
        for (int saw = 0; saw <= 3; saw++) {
            Edges sheet = one(saw, 10, 10, 5);
            sheet.told(10, "best", 20 + saw, 10);
            sheet.told(5, "best", 19 + saw, 10);
            sheet.told(10, "best", 10, 20 + saw);
            sheet.told(5, "best", 10, 19 + saw);
        }
        Edges wide = new Edges(CHECK, "SAW 1 at first", x -> x.sheet(10, 10, 5));
        wide.told(10, "best", 21, 10);
        wide.told(5, "best", 20, 10);
    }

    /** Promise 20: "NONE: there is none such (of either)": BOARD. */
    private static void cutsOfNoBoard() {
        for (int sheet = -1; sheet <= 1; sheet++) {
            SOME.refusedOutside(0, 1, 24, "cuts", 0, 1, sheet);
            SOME.refusedOutside(1, 1, 24, "cuts", 1, 0, sheet);
            SOME.refusedOutside(0, 1, 24, "cuts", 0, 24, sheet);
            SOME.refusedOutside(1, 1, 24, "cuts", 24, 0, sheet);
        }
        NEW.refusedOutside(0, 1, 24, "cuts", 0, 1, -1);
        NEW.refusedOutside(1, 1, 24, "cuts", 1, 0, -1);
        NEW.told(0, "cuts", 1, 1, -1);
        NEW.told(0, "cuts", 24, 24, -1);
    }

    /** Promise 20: "NONE: there is none such (of either)": SHEET; "of SHEET -1: how many cuts". */
    private static void cutsOfNoSheet() {
        NEW.refused("cuts", 1, 1, 0);
        NEW.refusedOutside(2, -1, -1, "cuts", 24, 24, 0);
        SOME.refusedOutside(2, -1, 1, "cuts", 24, 24, 0);
        SHORT.refusedOutside(2, -1, 4, "cuts", 24, 24, 0);
        FULL.refusedOutside(2, -1, 5, "cuts", 24, 24, 0);
        FULL.refusedOutside(2, -1, 5, "cuts", 1, 1, 0);
        SOME.refused("cuts", 0, 0, 2);
        SOME.refused("cuts", 25, 25, -2);
    }

    /** Promise 20: each SHEET 0 .. 5 is told of. */
    private static void cutsOfTheLastSheet() {
        for (int sheet = 0; sheet < 6; sheet++) {
            for (int other = 0; other < 6; other++) {
                FULL.told(sheet == other ? 1 : 0, "cuts", 3 + sheet, 7 - sheet, other);
            }
        }
        SHORT.told(1, "cuts", 7, 3, 4);
    }

    /** Terms 4: "to be lost or a SHEET .. ahead of a cut": what is worth nothing is not cut. */
    private static void lostAheadOfCuts() {
        Edges sheet = one(0, 5, 5, 9);
        sheet.told(0, "cuts", 4, 24, -1);
        sheet.told(0, "cuts", 24, 4, -1);
        sheet.told(0, "cuts", 4, 24, 0);
        NEW.told(0, "cuts", 24, 1, -1);
    }

    /** Terms 4: of SHEETS "the least number", if they are of the same WORTH. */
    private static void leastNumberOfSheets() {
        ChipBoards x = sheets(3, new int[] {3, 3, 8}, new int[] {2, 2, 9}, new int[] {2, 3, 9}, new int[] {3, 3, 9});
        dueWay("the same WORTH", x, 3, 3, 9, 0, 0, 1, 0, 0);
        ChipBoards y = sheets(3, new int[] {2, 2, 9}, new int[] {3, 3, 9});
        dueWay("though it is less wide", y, 3, 3, 9, 0, 1, 0);
        ChipBoards z = sheets(3, new int[] {2, 2, 9}, new int[] {3, 3, 10});
        dueWay("not if it is worth less", z, 3, 3, 10, 0, 0, 1);
    }

    /** Terms 4: a SHEET "ahead of a cut" of the same WORTH; a cut only for more. */
    private static void sheetAheadOfCuts() {
        dueWay("the same", sheets(0, new int[] {1, 1, 5}, new int[] {2, 1, 10}), 2, 1, 10, 0, 0, 1);
        dueWay("one more", sheets(0, new int[] {1, 1, 5}, new int[] {2, 1, 9}), 2, 1, 10, 1, 2, 0);
        dueWay("the same, level", sheets(0, new int[] {1, 1, 5}, new int[] {1, 2, 10}), 1, 2, 10, 0, 0, 1);
        dueWay("one more, level", sheets(0, new int[] {1, 1, 5}, new int[] {1, 2, 9}), 1, 2, 10, 1, 2, 0);
    }

    /** Terms 4: "upright cuts ahead of level ones" of the same WORTH. */
    private static void uprightAheadOfLevel() {
        dueWay("the same", sheets(1, new int[] {3, 1, 4}, new int[] {1, 3, 4}), 3, 3, 8, 1, 0, 2);
        dueWay("level for one more", sheets(1, new int[] {3, 1, 5}, new int[] {1, 3, 4}), 3, 3, 10, 1, 2, 0);
        dueWay("level, the last of all", sheets(0, new int[] {23, 24, 8}, new int[] {1, 24, 2}, new int[] {24, 1, 2},
                new int[] {24, 23, 47}), 24, 24, 49, 1, 0, 0, 1, 1);
    }

    /** Terms 4: "the one with the least first BOARD (the left ..)". */
    private static void leastLeftBoard() {
        int[][] kinds = {{1, 1, 2}, {2, 1, 4}, {3, 1, 6}};
        dueWay("1 and 3, not 2 and 2 or 3 and 1", sheets(0, kinds), 4, 1, 8, 1, 1, 0, 1);
        ChipBoards x = sheets(0, new int[] {2, 1, 5});
        dueWay("1, which is lost, and 4", x, 5, 1, 10, 2, 2);
        dueWay("nothing is lost", x, 4, 1, 10, 1, 2);
    }

    /** Terms 4: "the one with the least first BOARD (.. or lower one)". */
    private static void leastLowerBoard() {
        int[][] kinds = {{1, 1, 2}, {1, 2, 4}, {1, 3, 6}};
        dueWay("1 and 3, not 2 and 2 or 3 and 1", sheets(0, kinds), 1, 4, 8, 1, 1, 0, 1);
        ChipBoards x = sheets(0, new int[] {1, 2, 5});
        dueWay("1, which is lost, and 4", x, 1, 5, 10, 2, 2);
        dueWay("nothing is lost", x, 1, 4, 10, 1, 2);
    }

    /** Terms 4: "the BOARDS that come of it in the same way". */
    private static void partsInTheSameWay() {
        int[][] kinds = {{1, 1, 2}, {2, 1, 4}, {3, 1, 6}};
        dueWay("1, then 1 and 3 of 4", sheets(0, kinds), 5, 1, 10, 2, 2, 0, 1);
        dueWay("1, 1, then 1 and 3 of 4", sheets(0, kinds), 6, 1, 12, 3, 3, 0, 1);
    }
}
