/** Promises 22 and 23: images hold all that is told, and stay. */
public final class ImagesTest {
    private static final Check CHECK = new Check("ImagesTest");

    public static void main(String[] args) {
        wrongInputs();
        allIsKept();
        imagesStay();
        imageIsOverwritten();
        otherHistory();
        CHECK.finish();
    }

    private static void wrongInputs() {
        ChipBoards x = new ChipBoards();
        int[] bad = {-1, 3, Integer.MIN_VALUE, Integer.MAX_VALUE};
        for (int k : bad) {
            CHECK.due("image(" + k + ")", x.image(k), false);
            CHECK.due("again(" + k + ")", x.again(k), false);
        }
        CHECK.due("image(2)", x.image(2), true);
        CHECK.due("again(0)", x.again(0), false);
        CHECK.due("again(1)", x.again(1), false);
        CHECK.due("again(2)", x.again(2), true);
    }

    private static ChipBoards told() {
        ChipBoards x = new ChipBoards();
        retell(x);
        return x;
    }

    private static void retell(ChipBoards x) {
        x.bin(8, false);
        x.bin(2, true);
        x.fill(0, 5000);
        x.fill(1, 5000);
        x.lot(30);
        x.lot(500);
        x.rule(0, 20);
        x.rule(1, 60);
        x.rule(2, 300);
        x.rule(3, 2);
        x.lay(0, 1, 100);
        x.lay(1, 0, 200);
        x.plate(180);
        x.press(1, 0);
        x.link(0, 2, 3);
        x.link(3, 1, 3);
        x.state(3, true, true);
        x.sheet(2, 3, 40);
    }

    private static void change(ChipBoards x) {
        x.press(0, 0);
        x.bin(3, true);
        x.fill(0, 77);
        x.fill(1, 78);
        x.fill(2, 79);
        x.lot(9);
        x.rule(0, 5);
        x.rule(1, 99);
        x.rule(2, 9);
        x.rule(3, 0);
        x.lay(0, 0, 50);
        x.plate(250);
        x.link(0, 2, 0);
        x.link(0, 0, 3);
        x.state(3, true, false);
        x.state(0, true, false);
        x.sheet(1, 1, 30);
    }

    /** Few enough that an object can be asked five times within its 512 calls. */
    private static long[] answers(ChipBoards x) {
        long[] all = new long[100];
        int n = 0;
        for (int what = 0; what < 8; what++) {
            all[n++] = x.count(what);
        }
        for (int k = 0; k < 3; k++) {
            all[n++] = x.count(10 + k);
            all[n++] = x.count(20 + k);
            all[n++] = x.recall(k);
        }
        for (int mat = 0; mat < 3; mat++) {
            for (int what = 0; what < 8; what++) {
                all[n++] = x.mat(mat, what);
            }
            all[n++] = x.fastest(mat);
            for (int plate = 0; plate < 2; plate++) {
                all[n++] = x.time(mat, plate);
                all[n++] = x.shell(mat, plate, 40, 1, 2);
            }
        }
        all[n++] = x.badRow();
        all[n++] = x.bad(0);
        all[n++] = x.bad(1);
        for (int side = 5; side <= 20; side += 5) {
            all[n++] = x.best(side, side);
            for (int sheet = -1; sheet < 2; sheet++) {
                all[n++] = x.cuts(side, 9, sheet);
            }
        }
        return all;
    }

    private static void dueAlike(String name, long[] got, long[] want) {
        for (int k = 0; k < want.length; k++) {
            CHECK.due(name + ", answer " + k, got[k], want[k]);
        }
    }

    private static void allIsKept() {
        long[] want = answers(told());
        ChipBoards x = told();
        CHECK.due("image", x.image(1), true);
        dueAlike("an image changes nothing", answers(x), want);
        change(x);
        CHECK.due("again", x.again(1), true);
        dueAlike("as it was", answers(x), want);
        dueRulesAreBack(x);
    }

    private static void dueRulesAreBack(ChipBoards x) {
        CHECK.due("LIMIT 60", x.lay(0, 1, 100), 2);
        CHECK.due("GLUE 20", x.mat(2, 1), 20);
        CHECK.due("LIMIT 60: not all", x.lay(1, 1, 100), -1);
        CHECK.due("DAMP of bin 0 and 1", x.mat(2, 2), 4);
    }

    private static void imagesStay() {
        ChipBoards x = told();
        long[] want = answers(x);
        x.image(0);
        change(x);
        long[] later = answers(x);
        x.image(2);
        CHECK.due("again(0)", x.again(0), true);
        dueAlike("image 0", answers(x), want);
        change(x);
        dueAlike("the same change", answers(x), later);
        CHECK.due("again(0) once more", x.again(0), true);
        CHECK.due("again(2)", x.again(2), true);
        dueAlike("image 2", answers(x), later);
        CHECK.due("there is still no image 1", x.again(1), false);
    }

    /** As many of each as in told(), but with other numbers. */
    private static void tellOtherwise(ChipBoards x) {
        x.bin(1, true);
        x.bin(17, false);
        x.fill(0, 900);
        x.fill(1, 3000);
        x.lot(400);
        x.lot(20);
        x.lay(1, 1, 150);
        x.lay(0, 1, 250);
        x.plate(111);
        x.link(0, 2, 2);
        x.state(2, true, false);
        x.sheet(3, 2, 55);
    }

    private static void otherHistory() {
        long[] want = answers(told());
        ChipBoards y = new ChipBoards();
        tellOtherwise(y);
        long[] other = answers(y);
        ChipBoards z = new ChipBoards();
        z.image(0);
        tellOtherwise(z);
        z.image(1);
        z.again(0);
        retell(z);
        dueAlike("told upon a new image", answers(z), want);
        z.image(2);
        z.again(1);
        dueAlike("the other history", answers(z), other);
        CHECK.due("its LIMIT", z.lay(1, 0, 100), -1);
        CHECK.due("its USED bin", z.lay(0, 1, 100), 2);
        CHECK.due("its used chips", z.mat(2, 3), 40);
        CHECK.due("its bins' DAMP", z.mat(2, 2), 10);
        z.again(2);
        dueAlike("the first history", answers(z), want);
        dueRulesAreBack(z);
    }

    private static void imageIsOverwritten() {
        ChipBoards x = told();
        x.image(0);
        change(x);
        long[] later = answers(x);
        x.image(0);
        ChipBoards y = new ChipBoards();
        y.image(0);
        y.lot(5);
        CHECK.due("another object has its own", y.again(0), true);
        CHECK.due("it was new", y.count(1), 0);
        x.lot(50);
        x.again(0);
        dueAlike("the later image", answers(x), later);
    }
}
