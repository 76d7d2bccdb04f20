/** States that the tests of edges begin with. */
final class States {
    private States() {
    }

    static void nothing(ChipBoards x) {
    }

    /** Two of each, other rules than at first, a BAD ROW (2, 1), one MAT pressed, image 1. */
    static void some(ChipBoards x) {
        x.bin(5, false);
        x.bin(12, true);
        x.fill(0, 5000);
        x.fill(1, 3000);
        x.lot(15);
        x.lot(900);
        x.plate(150);
        x.sheet(2, 3, 7);
        x.lay(1, 0, 100);
        x.image(1);
        x.rule(0, 12);
        x.rule(1, 70);
        x.rule(2, 150);
        x.rule(3, 2);
        x.lay(0, 1, 100);
        x.plate(220);
        x.sheet(3, 1, 6);
        x.press(1, 0);
        x.link(0, 2, 3);
        x.link(3, 1, 4);
        x.state(4, true, false);
        ask(x);
    }

    /** What a call works out may be kept; the tests of edges begin where it has been asked for. */
    private static void ask(ChipBoards x) {
        x.best(24, 24);
        x.cuts(24, 24, 0);
        x.badRow();
        x.fastest(0);
    }

    /** One less of each than there may be. */
    static void oneShort(ChipBoards x) {
        bins(x, 5);
        lots(x, 7);
        mats(x, 23, 5);
        plates(x, 3);
        sheets(x, 5);
        ask(x);
    }

    /** As many of each as there may be. */
    static void full(ChipBoards x) {
        bins(x, 6);
        lots(x, 8);
        mats(x, 24, 6);
        plates(x, 4);
        sheets(x, 6);
        ask(x);
    }

    static void bins(ChipBoards x, int many) {
        for (int bin = 0; bin < many; bin++) {
            x.bin(4 * bin, bin % 3 == 0);
            x.fill(bin, 10000 + bin);
        }
    }

    static void lots(ChipBoards x, int many) {
        for (int lot = 0; lot < many; lot++) {
            x.lot(40 + lot);
        }
    }

    private static void mats(ChipBoards x, int many, int bins) {
        x.rule(1, 100);
        for (int mat = 0; mat < many; mat++) {
            x.lay(mat % bins, (mat + 1) % bins, 100 + mat);
        }
    }

    static void plates(ChipBoards x, int many) {
        for (int plate = 0; plate < many; plate++) {
            x.plate(100 + 50 * plate);
        }
    }

    static void sheets(ChipBoards x, int many) {
        for (int sheet = 0; sheet < many; sheet++) {
            x.sheet(3 + sheet, 7 - sheet, 10 + sheet);
        }
    }
}
