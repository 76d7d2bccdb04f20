/** Promises 6 to 8: MATS are laid, told of and recalled. */
public final class MatsTest {
    private static final Check CHECK = new Check("MatsTest");

    public static void main(String[] args) {
        facts();
        oddGrams();
        refusals();
        sameBin();
        glueByAge();
        limitEdge();
        mostMats();
        wrongInputs();
        CHECK.finish();
    }

    private static ChipBoards stocked() {
        ChipBoards x = new ChipBoards();
        x.bin(5, false);
        x.bin(12, true);
        x.fill(0, 100000);
        x.fill(1, 100000);
        x.lot(100000);
        return x;
    }

    private static void facts() {
        ChipBoards x = stocked();
        CHECK.due("lay", x.lay(1, 0, 1000), 0);
        // (400 * 12 + 600 * 5) / 1000 = 7.8
        long[] want = {1000, 100, 7, 400, 1, 0, 1, -1};
        for (int what = 0; what < want.length; what++) {
            CHECK.due("mat(0, " + what + ")", x.mat(0, what), want[what]);
        }
        CHECK.due("faces' bin gave", x.count(11), 99600);
        CHECK.due("core's bin gave", x.count(10), 99400);
        CHECK.due("lot gave", x.count(20), 99900);
        x.rule(1, 100);
        CHECK.due("lay the other way", x.lay(0, 1, 1000), 1);
        CHECK.due("its DAMP", x.mat(1, 2), 9);
        CHECK.due("BIN of its faces", x.mat(1, 4), 0);
        CHECK.due("BIN of its core", x.mat(1, 5), 1);
        CHECK.due("its used chips", x.mat(1, 3), 600);
        CHECK.due("lay of used alone", x.lay(1, 1, 1000), 2);
        CHECK.due("all of it used", x.mat(2, 3), 1000);
        CHECK.due("DAMP of one bin", x.mat(2, 2), 12);
    }

    private static void oddGrams() {
        ChipBoards x = stocked();
        x.rule(0, 13);
        CHECK.due("lay 19", x.lay(1, 0, 19), 0);
        CHECK.due("faces 7.6, cut", x.count(11), 99993);
        CHECK.due("core: the rest", x.count(10), 99988);
        CHECK.due("glue 2.47, cut", x.mat(0, 1), 2);
        CHECK.due("DAMP (84 + 60) / 19, cut", x.mat(0, 2), 7);
        CHECK.due("used", x.mat(0, 3), 7);
        CHECK.due("lay 10", x.lay(0, 0, 10), 1);
        CHECK.due("lay 10000", x.lay(0, 0, 10000), 2);
        CHECK.due("glue of 10000", x.mat(2, 1), 1300);
    }

    private static void refusals() {
        ChipBoards x = new ChipBoards();
        x.bin(0, false);
        x.bin(0, false);
        x.fill(0, 40);
        x.fill(1, 59);
        x.lot(9);
        CHECK.due("core's bin has too little", x.lay(0, 1, 100), -1);
        x.fill(1, 1);
        x.fill(1, 100);
        CHECK.due("faces' bin has too little", x.lay(0, 1, 103), -1);
        CHECK.due("and as the core's", x.lay(1, 0, 100), -1);
        CHECK.due("glue too little", x.lay(0, 1, 100), -1);
        CHECK.due("nothing was taken: bin 0", x.count(10), 40);
        CHECK.due("nothing was taken: bin 1", x.count(11), 160);
        CHECK.due("nothing was taken: lot", x.count(20), 9);
        CHECK.due("no mat", x.count(2), 0);
        x.lot(1);
        CHECK.due("just enough", x.lay(0, 1, 100), 0);
        CHECK.due("all of bin 0 is gone", x.count(10), 0);
        CHECK.due("not of bin 1", x.count(11), 100);
        CHECK.due("all glue is gone", x.count(6), 0);
        CHECK.due("of both lots", x.mat(0, 6), 3);
        x.fill(0, 66);
        x.lot(16);
        CHECK.due("just enough in both bins", x.lay(0, 1, 166), 1);
        CHECK.due("all chips are gone", x.count(5), 0);
    }

    private static void sameBin() {
        ChipBoards x = new ChipBoards();
        x.bin(7, false);
        x.fill(0, 99);
        x.lot(100);
        CHECK.due("60 are there, 100 are not", x.lay(0, 0, 100), -1);
        x.fill(0, 1);
        CHECK.due("100 are", x.lay(0, 0, 100), 0);
        CHECK.due("empty", x.count(10), 0);
    }

    private static void glueByAge() {
        ChipBoards x = stocked();
        ChipBoards y = new ChipBoards();
        y.bin(0, false);
        y.fill(0, 100000);
        y.lot(10);
        y.lot(5);
        y.lot(20);
        y.rule(0, 1);
        CHECK.due("no glue for 99 by 1 percent", y.lay(0, 0, 99), 0);
        CHECK.due("none: 0", y.mat(0, 1), 0);
        CHECK.due("none: no lots", y.mat(0, 6), 0);
        y.rule(0, 10);
        CHECK.due("10 of lot 0", y.lay(0, 0, 100), 1);
        CHECK.due("bits", y.mat(1, 6), 1);
        CHECK.due("5 of lot 1, 1 of lot 2, none of the empty lot 0", y.lay(0, 0, 60), 2);
        CHECK.due("bits of 1 and 2", y.mat(2, 6), 6);
        CHECK.due("lot 2", y.lay(0, 0, 10), 3);
        CHECK.due("bits of 2", y.mat(3, 6), 4);
        CHECK.due("left", y.count(22), 18);
        CHECK.due("too much", y.lay(0, 0, 190), -1);
        CHECK.due("recall 0", y.recall(0), 2);
        CHECK.due("recall 1", y.recall(1), 4);
        CHECK.due("recall 2", y.recall(2), 12);
        CHECK.due("recall 3", y.recall(3), -1);
        CHECK.due("recall -1", y.recall(-1), -1);
        CHECK.due("recall of another object", x.recall(0), 0);
        noLotsNoGlue();
        threeLots();
    }

    private static void noLotsNoGlue() {
        ChipBoards x = new ChipBoards();
        x.bin(0, false);
        x.fill(0, 1000);
        x.rule(0, 1);
        CHECK.due("no LOTS, and none is due", x.lay(0, 0, 50), 0);
        CHECK.due("no LOTS, one gram is due", x.lay(0, 0, 100), -1);
    }

    private static void threeLots() {
        ChipBoards x = new ChipBoards();
        x.bin(0, false);
        x.fill(0, 1000);
        x.lot(1);
        x.lot(1);
        x.lot(1);
        CHECK.due("of three lots", x.lay(0, 0, 30), 0);
        CHECK.due("bits of three", x.mat(0, 6), 7);
    }

    private static void limitEdge() {
        ChipBoards x = stocked();
        x.rule(1, 40);
        CHECK.due("40 percent", x.lay(1, 0, 100), 0);
        CHECK.due("7 of 19", x.lay(1, 0, 19), 1);
        x.rule(1, 39);
        CHECK.due("40 of 100 above 39", x.lay(1, 0, 100), -1);
        CHECK.due("7 of 19 is 36.8", x.lay(1, 0, 19), 2);
        x.rule(1, 36);
        CHECK.due("700 above 36 * 19", x.lay(1, 0, 19), -1);
    }

    private static void mostMats() {
        ChipBoards x = stocked();
        for (int mat = 0; mat < 24; mat++) {
            CHECK.due("mat " + mat, x.lay(0, 0, 100 + mat), mat);
        }
        CHECK.due("a 25th", x.lay(0, 0, 100), -1);
        CHECK.due("nothing was taken", x.count(10), 100000 - 2400 - 276);
        CHECK.due("recall all", x.recall(0), (1 << 24) - 1);
        for (int mat = 0; mat < 24; mat++) {
            CHECK.due("g of " + mat, x.mat(mat, 0), 100 + mat);
        }
        CHECK.due("mat(24, 0)", x.mat(24, 0), -1);
    }

    private static void wrongInputs() {
        ChipBoards x = stocked();
        int[] bad = {-1, 2, 6, Integer.MIN_VALUE, Integer.MAX_VALUE};
        for (int value : bad) {
            CHECK.due("lay face " + value, x.lay(value, 0, 100), -1);
            CHECK.due("lay core " + value, x.lay(0, value, 100), -1);
        }
        int[] badGrams = {9, 0, -100, 10001, Integer.MIN_VALUE, Integer.MAX_VALUE};
        for (int g : badGrams) {
            CHECK.due("lay g " + g, x.lay(0, 0, g), -1);
        }
        x.lay(0, 0, 100);
        int[] badWhat = {-1, 8, Integer.MIN_VALUE, Integer.MAX_VALUE};
        for (int what : badWhat) {
            CHECK.due("mat(0, " + what + ")", x.mat(0, what), -1);
            CHECK.due("mat of what as number " + what, x.mat(what, 0), -1);
        }
        CHECK.due("mat(1, 0)", x.mat(1, 0), -1);
        CHECK.due("recall(8)", x.recall(8), -1);
        CHECK.due("recall(32)", x.recall(32), -1);
    }
}
