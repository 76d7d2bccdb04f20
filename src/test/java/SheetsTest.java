/** Promises 18 to 20: SHEETS, BEST and the way to cut. */
public final class SheetsTest {
    private static final Check CHECK = new Check("SheetsTest");

    public static void main(String[] args) {
        sheets();
        bests();
        saws();
        wholeAheadOfCuts();
        uprightAheadOfLevel();
        leastFirstBoard();
        cutsAskedFirst();
        notTurned();
        changesAreSeen();
        greatest();
        wrongInputs();
        CHECK.finish();
    }

    /** The answers for one BOARD: its worth, its cuts, then how many of each SHEET. */
    private static void dueWay(String name, ChipBoards x, int w, int h, int... want) {
        String board = name + ": " + w + " by " + h;
        CHECK.due(board + " best", x.best(w, h), want[0]);
        for (int k = 1; k < want.length; k++) {
            CHECK.due(board + " cuts of " + (k - 2), x.cuts(w, h, k - 2), want[k]);
        }
        CHECK.due(board + " no such sheet", x.cuts(w, h, want.length - 2), -1);
    }

    private static void sheets() {
        ChipBoards x = new ChipBoards();
        int[][] bad = {{0, 1, 1}, {1, 0, 1}, {1, 1, 0}, {25, 1, 1}, {1, 25, 1}, {1, 1, 1000}, {-1, -1, -1},
            {Integer.MIN_VALUE, 1, 1}, {1, Integer.MAX_VALUE, 1}, {1, 1, Integer.MIN_VALUE}};
        for (int[] b : bad) {
            CHECK.due("sheet(" + b[0] + ", " + b[1] + ", " + b[2] + ")", x.sheet(b[0], b[1], b[2]), -1);
        }
        CHECK.due("none", x.count(4), 0);
        CHECK.due("sheet(24, 24, 999)", x.sheet(24, 24, 999), 0);
        CHECK.due("sheet(1, 1, 1)", x.sheet(1, 1, 1), 1);
        for (int sheet = 2; sheet < 6; sheet++) {
            CHECK.due("sheet " + sheet, x.sheet(2, 2, 1), sheet);
        }
        CHECK.due("a seventh", x.sheet(2, 2, 1), -1);
        CHECK.due("six", x.count(4), 6);
    }

    private static void bests() {
        ChipBoards x = new ChipBoards();
        dueWay("nothing to cut", x, 24, 24, 0, 0);
        x.sheet(3, 2, 7);
        dueWay("too small", x, 2, 24, 0, 0, 0);
        dueWay("too low", x, 24, 1, 0, 0, 0);
        dueWay("just so", x, 3, 2, 7, 0, 1);
        dueWay("the rest is lost without a cut", x, 6, 4, 7, 0, 1);
        dueWay("two of them", x, 7, 4, 14, 1, 2);
        dueWay("four of them", x, 7, 5, 28, 3, 4);
    }

    private static void saws() {
        for (int saw = 0; saw <= 3; saw++) {
            ChipBoards x = new ChipBoards();
            x.rule(3, saw);
            x.sheet(2, 2, 5);
            dueWay("SAW " + saw + ", not two", x, 3 + saw, 2, 5, 0, 1);
            dueWay("SAW " + saw + ", just two", x, 4 + saw, 2, 10, 1, 2);
            dueWay("SAW " + saw + ", level, not two", x, 2, 3 + saw, 5, 0, 1);
            dueWay("SAW " + saw + ", level, just two", x, 2, 4 + saw, 10, 1, 2);
            dueWay("SAW " + saw + ", as much as there is", x, 24, 24, 5 * many(saw) * many(saw),
                    many(saw) * many(saw) - 1, many(saw) * many(saw));
        }
        ChipBoards x = new ChipBoards();
        x.sheet(2, 2, 5);
        dueWay("SAW is 1 at first", x, 5, 2, 10, 1, 2);
    }

    /** How many 2 wide go into 24. */
    private static int many(int saw) {
        return (24 + saw) / (2 + saw);
    }

    private static void wholeAheadOfCuts() {
        ChipBoards x = new ChipBoards();
        x.rule(3, 0);
        x.sheet(1, 1, 5);
        x.sheet(2, 1, 10);
        x.sheet(2, 1, 10);
        dueWay("a SHEET ahead of a cut, the least number", x, 2, 1, 10, 0, 0, 1, 0);
        dueWay("the cut that is least, then the least SHEETS", x, 3, 1, 15, 1, 1, 1, 0);
        dueWay("both parts in the same way", x, 4, 1, 20, 2, 2, 1, 0);
        x.sheet(2, 1, 11);
        dueWay("the greater WORTH ahead of the least number", x, 2, 1, 11, 0, 0, 0, 0, 1);
    }

    private static void uprightAheadOfLevel() {
        ChipBoards x = new ChipBoards();
        x.sheet(1, 3, 4);
        x.sheet(3, 1, 4);
        dueWay("upright ahead of level", x, 3, 3, 8, 1, 2, 0);
        ChipBoards y = new ChipBoards();
        y.sheet(3, 1, 4);
        y.sheet(1, 3, 4);
        dueWay("upright, whatever the numbers", y, 3, 3, 8, 1, 0, 2);
        ChipBoards z = new ChipBoards();
        z.sheet(3, 1, 5);
        z.sheet(1, 3, 4);
        dueWay("level for more WORTH", z, 3, 3, 10, 1, 2, 0);
    }

    private static void leastFirstBoard() {
        ChipBoards x = new ChipBoards();
        x.rule(3, 0);
        x.sheet(1, 1, 2);
        x.sheet(2, 1, 4);
        x.sheet(3, 1, 6);
        dueWay("1 and 3, not 2 and 2", x, 4, 1, 8, 1, 1, 0, 1);
        dueWay("1, then 1, then 3", x, 5, 1, 10, 2, 2, 0, 1);
        ChipBoards y = new ChipBoards();
        y.rule(3, 0);
        y.sheet(1, 1, 2);
        y.sheet(1, 2, 4);
        y.sheet(1, 3, 6);
        dueWay("level: 1 and 3, not 2 and 2", y, 1, 4, 8, 1, 1, 0, 1);
        ChipBoards z = new ChipBoards();
        z.rule(3, 0);
        z.sheet(2, 1, 5);
        dueWay("a lost first BOARD is no way of more cuts", z, 3, 1, 5, 0, 1);
        dueWay("1 (lost) and 4, ahead of 2 and 3, though of more cuts", z, 5, 1, 10, 2, 2);
    }

    private static void cutsAskedFirst() {
        ChipBoards x = new ChipBoards();
        x.sheet(2, 2, 5);
        CHECK.due("cuts ahead of best", x.cuts(5, 2, -1), 1);
        x.sheet(5, 1, 11);
        CHECK.due("sheets ahead of best", x.cuts(5, 2, 1), 1);
        x.rule(3, 0);
        CHECK.due("and with another SAW", x.cuts(5, 2, 1), 2);
    }

    private static void notTurned() {
        ChipBoards x = new ChipBoards();
        x.sheet(5, 2, 9);
        dueWay("turned it would fit", x, 2, 5, 0, 0, 0);
        dueWay("as it is", x, 5, 2, 9, 0, 1);
    }

    private static void changesAreSeen() {
        ChipBoards x = new ChipBoards();
        x.sheet(2, 2, 5);
        dueWay("SAW 1", x, 6, 2, 10, 1, 2);
        x.rule(3, 0);
        dueWay("SAW 0", x, 6, 2, 15, 2, 3);
        x.rule(3, 4);
        dueWay("SAW is still 0", x, 6, 2, 15, 2, 3);
        x.rule(3, 3);
        dueWay("SAW 3", x, 6, 2, 5, 0, 1);
        x.sheet(6, 1, 6);
        dueWay("another SHEET", x, 6, 2, 6, 0, 0, 1);
        x.image(0);
        x.sheet(1, 1, 50);
        dueWay("a third", x, 6, 2, 100, 1, 0, 0, 2);
        x.again(0);
        dueWay("as it was", x, 6, 2, 6, 0, 0, 1);
    }

    private static void greatest() {
        ChipBoards x = new ChipBoards();
        x.rule(3, 0);
        x.sheet(1, 1, 999);
        dueWay("all of it in ones", x, 24, 24, 575424, 575, 576);
    }

    private static void wrongInputs() {
        ChipBoards x = new ChipBoards();
        x.sheet(1, 1, 1);
        int[] bad = {0, -1, 25, Integer.MIN_VALUE, Integer.MAX_VALUE};
        for (int side : bad) {
            CHECK.due("best(" + side + ", 1)", x.best(side, 1), -1);
            CHECK.due("best(1, " + side + ")", x.best(1, side), -1);
            CHECK.due("cuts(" + side + ", 1, 0)", x.cuts(side, 1, 0), -1);
            CHECK.due("cuts(1, " + side + ", 0)", x.cuts(1, side, 0), -1);
            CHECK.due("cuts(" + side + ", 1, -1)", x.cuts(side, 1, -1), -1);
            CHECK.due("cuts(1, " + side + ", -1)", x.cuts(1, side, -1), -1);
        }
        int[] none = {-2, 1, 6, 7, Integer.MIN_VALUE, Integer.MAX_VALUE};
        for (int sheet : none) {
            CHECK.due("cuts(1, 1, " + sheet + ")", x.cuts(1, 1, sheet), -1);
        }
    }
}
