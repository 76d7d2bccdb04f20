/** Promises 9 to 13: PLATES, TIME, FASTEST, pressing, SHELLS. */
public final class PressTest {
    private static final Check CHECK = new Check("PressTest");

    public static void main(String[] args) {
        plates();
        times();
        lastTick();
        needAtFirst();
        fastest();
        press();
        shells();
        wrongInputs();
        CHECK.finish();
    }

    private static ChipBoards withMats(int damp) {
        ChipBoards x = new ChipBoards();
        x.bin(damp, false);
        x.fill(0, 10000);
        x.lot(1000);
        x.lay(0, 0, 100);
        x.lay(0, 0, 100);
        return x;
    }

    private static void plates() {
        ChipBoards x = new ChipBoards();
        int[] bad = {99, 251, 0, -100, Integer.MIN_VALUE, Integer.MAX_VALUE};
        for (int heat : bad) {
            CHECK.due("plate(" + heat + ")", x.plate(heat), -1);
        }
        CHECK.due("plate(100)", x.plate(100), 0);
        CHECK.due("plate(250)", x.plate(250), 1);
        CHECK.due("plate(150)", x.plate(150), 2);
        CHECK.due("plate(150) again", x.plate(150), 3);
        CHECK.due("a fifth", x.plate(150), -1);
        CHECK.due("count(3)", x.count(3), 4);
    }

    private static void times() {
        ChipBoards x = withMats(20);
        int[] heats = {100, 120, 200, 250};
        int[] needs = {1, 50, 200, 5000};
        int[][] want = {{138, 157, 180, -1}, {97, 110, 126, 298}, {53, 61, 69, 152}, {44, 51, 58, 125}};
        for (int heat : heats) {
            x.plate(heat);
        }
        for (int plate = 0; plate < 4; plate++) {
            CHECK.due("NEED is 200 at first, plate " + plate, x.time(0, plate), want[plate][2]);
        }
        for (int k = 0; k < needs.length; k++) {
            x.rule(2, needs[k]);
            for (int plate = 0; plate < 4; plate++) {
                CHECK.due("time of heat " + heats[plate] + ", NEED " + needs[k], x.time(1, plate), want[plate][k]);
            }
        }
    }

    private static void lastTick() {
        ChipBoards x = withMats(3);
        x.plate(100);
        x.rule(2, 3550);
        CHECK.due("within 400", x.time(0, 0), 400);
        CHECK.due("fastest", x.fastest(0), 0);
        CHECK.due("CURE of the innermost", x.shell(0, 0, 400, 4, 1), 3550);
        CHECK.due("CURE a tick earlier", x.shell(0, 0, 399, 4, 1), 3532);
        x.rule(2, 3551);
        CHECK.due("not within 400", x.time(0, 0), -1);
        CHECK.due("no fastest", x.fastest(0), -1);
        CHECK.due("not pressed", x.press(0, 0), false);
        CHECK.due("none was", x.count(7), 0);
    }

    private static void needAtFirst() {
        ChipBoards x = withMats(3);
        x.plate(218);
        CHECK.due("the least CURE after 64 is 200", x.shell(0, 0, 64, 4, 1), 200);
        CHECK.due("NEED is 200 at first", x.time(0, 0), 64);
        x.rule(2, 201);
        CHECK.due("NEED 201", x.time(0, 0), 65);
    }

    private static void fastest() {
        ChipBoards x = withMats(5);
        CHECK.due("no plates", x.fastest(0), -1);
        x.plate(150);
        CHECK.due("the only one", x.fastest(0), 0);
        x.plate(250);
        CHECK.due("the hotter one", x.fastest(0), 1);
        x.plate(250);
        x.plate(200);
        CHECK.due("of two alike the first", x.fastest(1), 1);
        x.rule(2, 5000);
        CHECK.due("NEED 5000", x.fastest(1), 1);
        CHECK.due("no mat", x.fastest(2), -1);
        CHECK.due("no mat -1", x.fastest(-1), -1);
        x.press(0, 0);
        CHECK.due("of a pressed mat", x.fastest(0), 1);
    }

    private static void press() {
        ChipBoards x = withMats(5);
        x.plate(150);
        x.plate(250);
        CHECK.due("press", x.press(0, 0), true);
        CHECK.due("its TICKS", x.mat(0, 7), 93);
        CHECK.due("the other's", x.mat(1, 7), -1);
        CHECK.due("count(7)", x.count(7), 1);
        CHECK.due("pressed twice", x.press(0, 0), false);
        CHECK.due("pressed twice, other plate", x.press(0, 1), false);
        CHECK.due("TICKS stay", x.mat(0, 7), 93);
        x.rule(2, 1);
        CHECK.due("TICKS stay when NEED changes", x.mat(0, 7), 93);
        CHECK.due("TIME of a pressed mat", x.time(0, 0), 71);
        CHECK.due("press the other", x.press(1, 1), true);
        CHECK.due("its TICKS", x.mat(1, 7), 44);
        CHECK.due("both", x.count(7), 2);
        CHECK.due("press(2, 0)", x.press(2, 0), false);
        CHECK.due("press(-1, 0)", x.press(-1, 0), false);
    }

    private static void shells() {
        ChipBoards x = withMats(13);
        x.plate(250);
        int[] ticks = {0, 1, 5, 10, 30, 400};
        int[][] heat = {{2000, 2000, 2000, 2000, 2000}, {4875, 2000, 2000, 2000, 2000},
            {11069, 4155, 2298, 2021, 2001}, {14329, 7024, 3535, 2355, 2116},
            {18511, 12863, 8643, 6099, 5258}, {24915, 24842, 24784, 24749, 24737}};
        int[][] cure = {{0, 0, 0, 0, 0}, {0, 0, 0, 0, 0}, {56, 0, 0, 0, 0}, {315, 0, 0, 0, 0},
            {2109, 510, 12, 0, 0}, {59790, 53683, 49621, 47426, 46736}};
        for (int row = 0; row < ticks.length; row++) {
            for (int shell = 0; shell < 9; shell++) {
                int depth = Math.min(shell, 8 - shell);
                String at = "after " + ticks[row] + " shell " + shell;
                int steam = Math.max(0, (heat[row][depth] - 10000) * 13 / 100);
                CHECK.due(at + " heat", x.shell(0, 0, ticks[row], shell, 0), heat[row][depth]);
                CHECK.due(at + " CURE", x.shell(0, 0, ticks[row], shell, 1), cure[row][depth]);
                CHECK.due(at + " STEAM", x.shell(0, 0, ticks[row], shell, 2), steam);
            }
        }
        CHECK.due("STEAM 1069 * 13 / 100, cut", x.shell(0, 0, 5, 0, 2), 138);
        dampOfTheMat();
    }

    private static void dampOfTheMat() {
        ChipBoards x = withMats(0);
        x.bin(20, false);
        x.fill(1, 1000);
        x.lay(1, 1, 100);
        x.plate(250);
        CHECK.due("a dry mat has no STEAM", x.shell(0, 0, 400, 0, 2), 0);
        CHECK.due("a damp one has", x.shell(2, 0, 400, 0, 2), 2983);
        CHECK.due("heat is the same", x.shell(2, 0, 400, 0, 0), 24915);
    }

    private static void wrongInputs() {
        ChipBoards x = withMats(5);
        x.plate(200);
        int[] bad = {-1, 500, Integer.MIN_VALUE, Integer.MAX_VALUE};
        for (int value : bad) {
            CHECK.due("shell of mat " + value, x.shell(value, 0, 3, 3, 0), -1);
            CHECK.due("shell of plate " + value, x.shell(0, value, 3, 3, 0), -1);
            CHECK.due("shell, ticks " + value, x.shell(0, 0, value, 3, 0), -1);
            CHECK.due("shell " + value, x.shell(0, 0, 3, value, 0), -1);
            CHECK.due("shell CURE " + value, x.shell(0, 0, 3, value, 1), -1);
            CHECK.due("shell STEAM " + value, x.shell(0, 0, 3, value, 2), -1);
            CHECK.due("shell, what " + value, x.shell(0, 0, 3, 3, value), -1);
            CHECK.due("time of mat " + value, x.time(value, 0), -1);
            CHECK.due("time by plate " + value, x.time(0, value), -1);
            CHECK.due("press mat " + value, x.press(value, 0), false);
            CHECK.due("press by plate " + value, x.press(0, value), false);
            CHECK.due("fastest " + value, x.fastest(value), -1);
        }
        CHECK.due("mat 2", x.time(2, 0), -1);
        CHECK.due("plate 1", x.time(0, 1), -1);
        CHECK.due("shell of mat 2", x.shell(2, 0, 0, 0, 0), -1);
        CHECK.due("shell of plate 1", x.shell(0, 1, 0, 0, 0), -1);
        CHECK.due("ticks 401", x.shell(0, 0, 401, 0, 0), -1);
        for (int what = 0; what < 3; what++) {
            CHECK.due("shell 9, what " + what, x.shell(0, 0, 0, 9, what), -1);
        }
        CHECK.due("what 3", x.shell(0, 0, 0, 0, 3), -1);
    }
}
