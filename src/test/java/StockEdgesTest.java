import java.util.List;

/** Promises 1 to 5 and 21 at their edges: a test for each sentence that names one. */
public final class StockEdgesTest {
    private static final Check CHECK = new Check("StockEdgesTest");
    private static final Edges NEW = new Edges(CHECK, "new", States::nothing);
    private static final Edges SOME = new Edges(CHECK, "some", States::some);
    private static final Edges SHORT = new Edges(CHECK, "one short of full", States::oneShort);
    private static final Edges FULL = new Edges(CHECK, "full", States::full);

    public static void main(String[] args) {
        newHasNothing();
        newHasNoImages();
        newNumbersBeginAtNone();
        newRules();
        newDryer();
        objectsAreApart();
        binsAreSix();
        binOfAnotherDamp();
        binIsEmptyAtFirst();
        fillOfNoBin();
        fillWithNone();
        fillAboveTheMost();
        fillAgainBehindLay();
        lotsAreEight();
        lotOfOtherGrams();
        emptyLotsCount();
        ruleOfOtherValues();
        ruleOfAnotherWhat();
        ruleFromNowOn();
        countOfAnotherWhat();
        countOfNoneSuch();
        countOfTheMost();
        countOfWhatIsEmpty();
        CHECK.finish();
    }

    /** Promise 1: "No BINS, LOTS, MATS, PLATES, SHEETS". */
    private static void newHasNothing() {
        for (int what = 0; what <= 7; what++) {
            NEW.told(0, "count", what);
            NEW.refused("mat", 0, what);
        }
        NEW.refused("count", 10);
        NEW.refused("count", 20);
        NEW.refused("fill", 0, 1);
        NEW.refused("lay", 0, 0, 10);
        NEW.refused("recall", 0);
        NEW.refused("time", 0, 0);
        NEW.refused("fastest", 0);
        NEW.refused("press", 0, 0);
        NEW.refused("shell", 0, 0, 0, 0, 0);
        NEW.refused("cuts", 1, 1, 0);
        NEW.told(0, "cuts", 24, 24, -1);
        NEW.told(0, "best", 24, 24);
    }

    /** Promise 1: "no images". */
    private static void newHasNoImages() {
        for (int k = 0; k < 3; k++) {
            NEW.refused("again", k);
        }
    }

    /** Terms 1, 2, 4: all are numbered "from 0 on". */
    private static void newNumbersBeginAtNone() {
        NEW.taken(0, "bin", 7, false);
        NEW.taken(0, "lot", 7);
        NEW.taken(0, "plate", 107);
        NEW.taken(0, "sheet", 7, 7, 7);
        Edges stocked = new Edges(CHECK, "a bin without glue", x -> {
            x.bin(7, false);
            x.fill(0, 10);
            x.rule(0, 9);
        });
        stocked.taken(0, "lay", 0, 0, 10);
    }

    /** Terms 1, 2, 4: GLUE 10, LIMIT 50, NEED 200, SAW 1 "at first". */
    private static void newRules() {
        ChipBoards x = new ChipBoards();
        x.bin(0, true);
        x.bin(0, false);
        x.fill(0, 1000);
        x.fill(1, 1000);
        x.lot(100);
        x.plate(218);
        x.plate(222);
        x.sheet(1, 1, 1);
        CHECK.due("LIMIT at first: 60 percent", x.lay(1, 0, 100), -1);
        CHECK.due("LIMIT at first: 40 percent", x.lay(0, 1, 100), 0);
        CHECK.due("GLUE at first", x.mat(0, 1), 10);
        CHECK.due("NEED at first: CURE 200", x.shell(0, 0, 64, 4, 1), 200);
        CHECK.due("NEED at first: 200 is enough", x.time(0, 0), 64);
        CHECK.due("NEED at first: CURE 199", x.shell(0, 1, 63, 4, 1), 199);
        CHECK.due("NEED at first: 199 is not enough", x.time(0, 1), 64);
        CHECK.due("SAW at first: 2 wide", x.best(2, 1), 1);
        CHECK.due("SAW at first: 3 wide", x.best(3, 1), 2);
    }

    /** Terms 3: each STATE leads "to itself at first"; FEED and WATER are "both off at first". */
    private static void newDryer() {
        NEW.refused("badRow");
        NEW.refused("bad", 0);
        for (int state = 0; state < 8; state++) {
            for (int event = 0; event < 4; event++) {
                NEW.told(1, "link", state, event, state);
            }
            NEW.told(1, "state", state, false, false);
        }
    }

    /** Promise 1 is of each object, whatever other ones have been told. */
    private static void objectsAreApart() {
        List<long[]> alone = Probes.answers(NEW::fresh);
        List<long[]> beside = Probes.answers(() -> {
            ChipBoards x = new ChipBoards();
            FULL.fresh().image(0);
            SOME.fresh().image(2);
            return x;
        });
        CHECK.due("new ones beside others: answers unlike", Probes.differences(alone, beside), 0);
    }

    /** Promise 2: "A BIN: its number. NONE: there are 6". */
    private static void binsAreSix() {
        SHORT.taken(5, "bin", 0, false);
        SHORT.taken(5, "bin", 20, true);
        FULL.refused("bin", 0, false);
        FULL.refused("bin", 10, true);
        FULL.refused("bin", 20, true);
        FULL.refused("bin", 21, true);
        ChipBoards x = new ChipBoards();
        for (int bin = 0; bin < 6; bin++) {
            CHECK.due("not a BIN", x.bin(21, false), -1);
            CHECK.due("BIN " + bin, x.bin(bin, false), bin);
        }
        CHECK.due("a seventh", x.bin(5, false), -1);
    }

    /** Promise 2: "NONE: .. or another DAMP" than 0 .. 20. */
    private static void binOfAnotherDamp() {
        NEW.refusedOutside(0, 0, 20, "bin", 0, false);
        NEW.refusedOutside(0, 0, 20, "bin", 0, true);
        SOME.refusedOutside(0, 0, 20, "bin", 0, false);
        SHORT.refusedOutside(0, 0, 20, "bin", 0, true);
        NEW.taken(0, "bin", 0, false);
        NEW.taken(0, "bin", 20, false);
        SOME.taken(2, "bin", 0, true);
        SOME.taken(2, "bin", 20, true);
        ChipBoards x = new ChipBoards();
        x.bin(0, false);
        x.bin(20, false);
        x.fill(0, 100);
        x.fill(1, 100);
        x.lot(100);
        x.lay(0, 0, 100);
        x.lay(1, 1, 100);
        CHECK.due("the least DAMP", x.mat(0, 2), 0);
        CHECK.due("the greatest DAMP", x.mat(1, 2), 20);
    }

    /** Terms 1: GRAMS of a BIN are "0 at first", even if an earlier BIN of that number had some. */
    private static void binIsEmptyAtFirst() {
        ChipBoards x = new ChipBoards();
        x.image(0);
        for (int turn = 0; turn < 2; turn++) {
            for (int bin = 0; bin < 6; bin++) {
                CHECK.due("BIN " + bin, x.bin(bin, false), bin);
                CHECK.due("GRAMS of BIN " + bin + " at first", x.count(10 + bin), 0);
                x.fill(bin, 100);
            }
            x.again(0);
        }
    }

    /** Promise 3: "NONE: there is none such". */
    private static void fillOfNoBin() {
        NEW.refused("fill", 0, 1);
        SOME.refusedOutside(0, 0, 1, "fill", 0, 1);
        SOME.refused("fill", 5, 1);
        SHORT.refused("fill", 5, 1);
        FULL.refusedOutside(0, 0, 5, "fill", 0, 1);
        SOME.taken(5000 - 60 - 40 + 1, "fill", 0, 1);
        SOME.taken(3000 - 40 - 60 + 1, "fill", 1, 1);
        ChipBoards x = new ChipBoards();
        for (int bin = 0; bin < 6; bin++) {
            x.bin(0, false);
        }
        CHECK.due("the first BIN", x.fill(0, 3), 3);
        CHECK.due("the last BIN", x.fill(5, 4), 4);
        CHECK.due("all of them", x.count(5), 7);
    }

    /** Promise 3: "NONE: .. none or fewer come". */
    private static void fillWithNone() {
        SOME.refused("fill", 0, 0);
        SOME.refused("fill", 0, -1);
        SOME.refused("fill", 0, -4900);
        SOME.refused("fill", 0, Integer.MIN_VALUE);
        SOME.refused("fill", 2, 0);
        SOME.taken(4901, "fill", 0, 1);
        Edges empty = new Edges(CHECK, "an empty bin", x -> x.bin(0, false));
        empty.refused("fill", 0, 0);
        empty.refused("fill", 0, -1);
        empty.taken(1, "fill", 0, 1);
    }

    /** Promise 3: "NONE: .. or it would have more than 1000000". */
    private static void fillAboveTheMost() {
        Edges empty = new Edges(CHECK, "an empty bin", x -> x.bin(0, false));
        empty.taken(1000000, "fill", 0, 1000000);
        empty.refused("fill", 0, 1000001);
        empty.refused("fill", 0, Integer.MAX_VALUE);
        Edges near = new Edges(CHECK, "999999 in a bin", x -> {
            x.bin(0, false);
            x.bin(0, false);
            x.fill(0, 999999);
        });
        near.taken(1000000, "fill", 0, 1);
        near.refused("fill", 0, 2);
        near.refused("fill", 0, Integer.MAX_VALUE);
        near.refused("fill", 0, Integer.MAX_VALUE - 999998);
        near.taken(1000000, "fill", 1, 1000000);
        Edges full = new Edges(CHECK, "1000000 in a bin", x -> {
            x.bin(0, false);
            x.fill(0, 1000000);
        });
        full.refused("fill", 0, 1);
        full.refused("fill", 0, 0);
        full.refused("fill", 0, Integer.MAX_VALUE);
    }

    /** Promise 3: what a MAT took out may come in again, and no more. */
    private static void fillAgainBehindLay() {
        Edges laid = new Edges(CHECK, "a full bin that gave 10", x -> {
            x.bin(0, false);
            x.fill(0, 1000000);
            x.lot(1);
            x.lay(0, 0, 10);
        });
        laid.taken(1000000, "fill", 0, 10);
        laid.refused("fill", 0, 11);
    }

    /** Promise 4: "A LOT: its number. NONE: there are 8". */
    private static void lotsAreEight() {
        SHORT.taken(7, "lot", 1);
        SHORT.taken(7, "lot", 100000);
        FULL.refused("lot", 1);
        FULL.refused("lot", 100000);
        FULL.refused("lot", 0);
        ChipBoards x = new ChipBoards();
        for (int lot = 0; lot < 8; lot++) {
            CHECK.due("not a LOT", x.lot(0), -1);
            CHECK.due("LOT " + lot, x.lot(lot + 1), lot);
        }
        CHECK.due("a ninth", x.lot(1), -1);
    }

    /** Promise 4: "NONE: .. or others" than 1 .. 100000. */
    private static void lotOfOtherGrams() {
        NEW.refusedOutside(0, 1, 100000, "lot", 0);
        SOME.refusedOutside(0, 1, 100000, "lot", 0);
        SHORT.refusedOutside(0, 1, 100000, "lot", 0);
        NEW.taken(0, "lot", 1);
        NEW.taken(0, "lot", 100000);
        ChipBoards x = new ChipBoards();
        x.lot(1);
        x.lot(100000);
        CHECK.due("the least GRAMS", x.count(20), 1);
        CHECK.due("the most GRAMS", x.count(21), 100000);
    }

    /** Promise 4: LOTS whose glue is spent are LOTS still. */
    private static void emptyLotsCount() {
        Edges spent = new Edges(CHECK, "eight spent lots", x -> {
            x.bin(0, false);
            x.fill(0, 1000);
            for (int lot = 0; lot < 8; lot++) {
                x.lot(1);
            }
            x.lay(0, 0, 80);
        });
        spent.told(0, "count", 6);
        spent.told(8, "count", 1);
        spent.refused("lot", 1);
        spent.refused("lay", 0, 0, 10);
    }

    /** Two BINS of 1000, one USED; glue; a MAT, a PLATE, a SHEET: all that shows a rule. */
    private static void ruled(ChipBoards x) {
        x.bin(0, true);
        x.bin(0, false);
        x.fill(0, 1000);
        x.fill(1, 1000);
        x.lot(500);
        x.plate(250);
        x.sheet(1, 1, 1);
        x.lay(0, 1, 100);
        x.rule(0, 20);
        x.rule(1, 50);
        x.rule(2, 300);
        x.rule(3, 2);
        x.best(24, 24);
    }

    /** Promise 5: GLUE 1 .. 30, LIMIT 0 .. 100, NEED 1 .. 5000, SAW 0 .. 3; "false for others". */
    private static void ruleOfOtherValues() {
        Edges ruled = new Edges(CHECK, "ruled", StockEdgesTest::ruled);
        int[] least = {1, 0, 1, 0};
        int[] most = {30, 100, 5000, 3};
        for (int what = 0; what < 4; what++) {
            ruled.refusedOutside(1, least[what], most[what], "rule", what, 0);
            ruled.taken(1, "rule", what, least[what]);
            ruled.taken(1, "rule", what, most[what]);
            NEW.refusedOutside(1, least[what], most[what], "rule", what, 0);
            SOME.refusedOutside(1, least[what], most[what], "rule", what, 0);
        }
        leastRules();
        mostRules();
    }

    private static void leastRules() {
        ChipBoards x = new ChipBoards();
        ruled(x);
        x.rule(0, 1);
        x.rule(1, 0);
        x.rule(2, 1);
        x.rule(3, 0);
        CHECK.due("LIMIT 0: 40 percent", x.lay(0, 1, 100), -1);
        CHECK.due("LIMIT 0: none used", x.lay(1, 1, 100), 1);
        CHECK.due("GLUE 1", x.mat(1, 1), 1);
        CHECK.due("NEED 1", x.time(1, 0), 44);
        CHECK.due("SAW 0", x.best(24, 1), 24);
    }

    private static void mostRules() {
        ChipBoards x = new ChipBoards();
        ruled(x);
        x.rule(0, 30);
        x.rule(1, 100);
        x.rule(2, 5000);
        x.rule(3, 3);
        CHECK.due("LIMIT 100: all used", x.lay(0, 0, 100), 1);
        CHECK.due("GLUE 30", x.mat(1, 1), 30);
        CHECK.due("NEED 5000", x.time(1, 0), 125);
        CHECK.due("SAW 3", x.best(24, 1), 6);
    }

    /** Promise 5: "GLUE (what 0), LIMIT (1), NEED (2), SAW (3) ..; false for others". */
    private static void ruleOfAnotherWhat() {
        Edges ruled = new Edges(CHECK, "ruled", StockEdgesTest::ruled);
        for (int value = 0; value <= 3; value++) {
            ruled.refusedOutside(0, 0, 3, "rule", 0, value);
        }
        SOME.refusedOutside(0, 0, 3, "rule", 0, 1);
        NEW.refusedOutside(0, 0, 3, "rule", 0, 1);
    }

    /** Promise 5: "from now on": what was laid and pressed before stays. */
    private static void ruleFromNowOn() {
        ChipBoards x = new ChipBoards();
        ruled(x);
        CHECK.due("press with NEED 300", x.press(0, 0), true);
        int ticks = x.mat(0, 7);
        x.rule(0, 30);
        x.rule(1, 0);
        x.rule(2, 5000);
        CHECK.due("GLUE of an earlier MAT", x.mat(0, 1), 10);
        CHECK.due("an earlier MAT above LIMIT", x.mat(0, 3), 40);
        CHECK.due("TICKS of a pressed MAT", x.mat(0, 7), ticks);
        CHECK.due("LIMIT 0 from now on", x.lay(0, 1, 100), -1);
    }

    /** Promise 21: "NONE for another what". */
    private static void countOfAnotherWhat() {
        int[] others = {-1, 8, 9, 16, 17, 18, 19, 28, 29, Integer.MIN_VALUE, Integer.MAX_VALUE};
        for (int what : others) {
            FULL.refused("count", what);
            NEW.refused("count", what);
        }
        FULL.told(6, "count", 0);
        FULL.told(0, "count", 7);
    }

    /** Promise 21: "NONE .. if there is none such". */
    private static void countOfNoneSuch() {
        for (int bin = 0; bin < 6; bin++) {
            NEW.refused("count", 10 + bin);
        }
        for (int lot = 0; lot < 8; lot++) {
            NEW.refused("count", 20 + lot);
        }
        SOME.told(2900, "count", 11);
        SOME.refused("count", 12);
        SOME.told(900 - 7, "count", 21);
        SOME.refused("count", 22);
        SHORT.refused("count", 15);
        SHORT.refused("count", 27);
    }

    /** Promise 21 where all is full: as many, and as many GRAMS, as there may be. */
    private static void countOfTheMost() {
        int[] most = {6, 8, 24, 4, 6};
        for (int what = 0; what < 5; what++) {
            SHORT.told(most[what] - 1, "count", what);
            FULL.told(most[what], "count", what);
        }
        ChipBoards x = new ChipBoards();
        for (int bin = 0; bin < 6; bin++) {
            x.bin(0, false);
            x.fill(bin, 1000000);
        }
        for (int lot = 0; lot < 8; lot++) {
            x.lot(100000);
        }
        CHECK.due("GRAMS in all BINS", x.count(5), 6000000);
        CHECK.due("GRAMS in the last BIN", x.count(15), 1000000);
        CHECK.due("GRAMS in all LOTS", x.count(6), 800000);
        CHECK.due("GRAMS in the last LOT", x.count(27), 100000);
        ChipBoards y = FULL.fresh();
        for (int mat = 0; mat < 24; mat++) {
            CHECK.due("pressed before " + mat, y.count(7), mat);
            y.press(mat, 3);
        }
        CHECK.due("all are pressed", y.count(7), 24);
    }

    /** Promise 21: a BIN or a LOT with nothing in it is there: 0, not NONE. */
    private static void countOfWhatIsEmpty() {
        Edges empty = new Edges(CHECK, "all given out", x -> {
            x.bin(0, false);
            x.fill(0, 10);
            x.lot(1);
            x.lay(0, 0, 10);
        });
        empty.told(0, "count", 10);
        empty.told(0, "count", 20);
        empty.told(0, "count", 5);
        empty.told(0, "count", 6);
        empty.refused("count", 11);
        empty.refused("count", 21);
    }
}
