/** Promises 1 to 5 and 21: a new object, BINS, LOTS, rules, counts. */
public final class StockTest {
    private static final Check CHECK = new Check("StockTest");

    public static void main(String[] args) {
        newObject();
        bins();
        fill();
        lots();
        rules();
        counts();
        CHECK.finish();
    }

    private static void newObject() {
        ChipBoards x = new ChipBoards();
        for (int what = -3; what <= 40; what++) {
            CHECK.due("new: count(" + what + ")", x.count(what), what >= 0 && what <= 7 ? 0 : -1);
        }
        for (int k = -1; k <= 3; k++) {
            CHECK.due("new: again(" + k + ")", x.again(k), false);
            CHECK.due("new: recall(" + k + ")", x.recall(k), -1);
            CHECK.due("new: mat(" + k + ", 0)", x.mat(k, 0), -1);
            CHECK.due("new: time", x.time(k, k), -1);
            CHECK.due("new: cuts", x.cuts(3, 3, k), k == -1 ? 0 : -1);
        }
        CHECK.due("new: badRow", x.badRow(), -1);
        CHECK.due("new: best", x.best(24, 24), 0);
        CHECK.due("new: fill", x.fill(0, 1), -1);
        CHECK.due("new: lay", x.lay(0, 0, 10), -1);
    }

    private static void bins() {
        ChipBoards x = new ChipBoards();
        CHECK.due("bin(-1)", x.bin(-1, false), -1);
        CHECK.due("bin(21)", x.bin(21, true), -1);
        CHECK.due("bin(min)", x.bin(Integer.MIN_VALUE, true), -1);
        CHECK.due("bin(max)", x.bin(Integer.MAX_VALUE, true), -1);
        CHECK.due("no bins", x.count(0), 0);
        CHECK.due("bin(0)", x.bin(0, false), 0);
        CHECK.due("bin(20)", x.bin(20, true), 1);
        for (int bin = 2; bin < 6; bin++) {
            CHECK.due("bin " + bin, x.bin(bin, false), bin);
        }
        CHECK.due("bin 6", x.bin(5, false), -1);
        CHECK.due("six bins", x.count(0), 6);
    }

    private static void fill() {
        ChipBoards x = new ChipBoards();
        x.bin(3, false);
        x.bin(3, true);
        CHECK.due("empty at first", x.count(10), 0);
        CHECK.due("fill(-1, 1)", x.fill(-1, 1), -1);
        CHECK.due("fill(2, 1)", x.fill(2, 1), -1);
        CHECK.due("fill(0, 0)", x.fill(0, 0), -1);
        CHECK.due("fill(0, -1)", x.fill(0, -1), -1);
        CHECK.due("fill(0, 1000001)", x.fill(0, 1000001), -1);
        CHECK.due("fill(0, 999999)", x.fill(0, 999999), 999999);
        CHECK.due("fill(0, -5)", x.fill(0, -5), -1);
        CHECK.due("fill(0, 2)", x.fill(0, 2), -1);
        CHECK.due("fill(0, max)", x.fill(0, Integer.MAX_VALUE), -1);
        CHECK.due("fill(0, min)", x.fill(0, Integer.MIN_VALUE), -1);
        CHECK.due("fill(0, 1)", x.fill(0, 1), 1000000);
        CHECK.due("fill(0, 1) when full", x.fill(0, 1), -1);
        CHECK.due("fill(1, 1000000)", x.fill(1, 1000000), 1000000);
        CHECK.due("count(5)", x.count(5), 2000000);
    }

    private static void lots() {
        ChipBoards x = new ChipBoards();
        CHECK.due("lot(0)", x.lot(0), -1);
        CHECK.due("lot(-1)", x.lot(-1), -1);
        CHECK.due("lot(100001)", x.lot(100001), -1);
        CHECK.due("lot(1)", x.lot(1), 0);
        for (int lot = 1; lot < 8; lot++) {
            CHECK.due("lot " + lot, x.lot(100000), lot);
        }
        CHECK.due("lot 8", x.lot(5), -1);
        CHECK.due("count(1)", x.count(1), 8);
        CHECK.due("count(6)", x.count(6), 700001);
        CHECK.due("recall of a lot not used", x.recall(7), 0);
    }

    private static void rules() {
        ChipBoards x = new ChipBoards();
        int[] least = {1, 0, 1, 0};
        int[] most = {30, 100, 5000, 3};
        for (int what = 0; what < 4; what++) {
            CHECK.due("rule " + what + " below", x.rule(what, least[what] - 1), false);
            CHECK.due("rule " + what + " least", x.rule(what, least[what]), true);
            CHECK.due("rule " + what + " most", x.rule(what, most[what]), true);
            CHECK.due("rule " + what + " above", x.rule(what, most[what] + 1), false);
            CHECK.due("rule " + what + " min", x.rule(what, Integer.MIN_VALUE), false);
            CHECK.due("rule " + what + " max", x.rule(what, Integer.MAX_VALUE), false);
        }
        CHECK.due("rule -1", x.rule(-1, 1), false);
        CHECK.due("rule 4", x.rule(4, 1), false);
        firstRules();
        refusedRuleChangesNothing();
    }

    private static void firstRules() {
        ChipBoards x = new ChipBoards();
        x.bin(0, true);
        x.bin(0, false);
        x.fill(0, 5000);
        x.fill(1, 5000);
        x.lot(1000);
        CHECK.due("LIMIT is 50 at first: 60 of 100 used", x.lay(1, 0, 100), -1);
        CHECK.due("40 of 100 used", x.lay(0, 1, 100), 0);
        CHECK.due("GLUE is 10 at first", x.mat(0, 1), 10);
        x.rule(1, 60);
        CHECK.due("LIMIT 60", x.lay(1, 0, 100), 1);
        CHECK.due("LIMIT 60, all used", x.lay(0, 0, 100), -1);
        x.rule(1, 100);
        x.rule(0, 30);
        CHECK.due("LIMIT 100, all used", x.lay(0, 0, 100), 2);
        CHECK.due("GLUE 30", x.mat(2, 1), 30);
        CHECK.due("an earlier mat keeps its glue", x.mat(1, 1), 10);
        x.rule(1, 0);
        CHECK.due("LIMIT 0", x.lay(0, 1, 100), -1);
        CHECK.due("LIMIT 0, new chips", x.lay(1, 1, 100), 3);
    }

    private static void refusedRuleChangesNothing() {
        ChipBoards x = new ChipBoards();
        x.bin(0, false);
        x.fill(0, 1000);
        x.lot(1000);
        x.rule(0, 20);
        x.rule(0, 31);
        x.rule(0, 0);
        x.lay(0, 0, 100);
        CHECK.due("GLUE stays 20", x.mat(0, 1), 20);
    }

    private static void counts() {
        ChipBoards x = new ChipBoards();
        x.bin(1, false);
        x.bin(1, true);
        x.fill(0, 700);
        x.fill(1, 300);
        x.lot(60);
        x.lot(50);
        x.plate(250);
        x.sheet(2, 2, 2);
        x.lay(0, 0, 100);
        x.lay(0, 0, 200);
        x.rule(2, 1);
        x.press(1, 0);
        long[] want = {2, 2, 2, 1, 1, 700, 80, 1, -1, -1, 400, 300, -1, -1, -1, -1, -1, -1, -1, -1, 30, 50, -1};
        for (int what = 0; what < want.length; what++) {
            CHECK.due("count(" + what + ")", x.count(what), want[what]);
        }
        CHECK.due("count(-1)", x.count(-1), -1);
        CHECK.due("count(16)", x.count(16), -1);
        CHECK.due("count(28)", x.count(28), -1);
        CHECK.due("count(max)", x.count(Integer.MAX_VALUE), -1);
        CHECK.due("count(min)", x.count(Integer.MIN_VALUE), -1);
    }
}
