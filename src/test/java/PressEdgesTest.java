import java.util.Arrays;

/** Promises 9 to 13 at their edges: a test for each sentence that names one. */
public final class PressEdgesTest {
    private static final Check CHECK = new Check("PressEdgesTest");
    private static final Edges NEW = new Edges(CHECK, "new", States::nothing);
    private static final Edges SOME = new Edges(CHECK, "some", States::some);
    private static final Edges SHORT = new Edges(CHECK, "one short of full", States::oneShort);
    private static final Edges FULL = new Edges(CHECK, "full", States::full);

    public static void main(String[] args) {
        platesAreFour();
        plateOfAnotherHeat();
        timeOfNoneSuch();
        timeWithinTheLastTick();
        timeAtNeed();
        timeOfPressed();
        fastestOfNoMat();
        fastestOfNoPlates();
        fastestWithinTheLastTick();
        fastestOfSeveral();
        pressOfNoneSuch();
        pressTwice();
        pressWithoutTime();
        pressForTheLastTick();
        pressOfTheLast();
        shellOfNoneSuch();
        shellOfOtherTicks();
        shellOfNoShell();
        shellOfAnotherWhat();
        shellAtFirst();
        cureAboveItsHeat();
        steamAboveItsHeat();
        steamOfTheDriest();
        CHECK.finish();
    }

    /** MATS of DAMP 0 and 20, these PLATES, and NEED. */
    private static Edges matsAndPlates(int need, int... heats) {
        return new Edges(CHECK, "NEED " + need + ", plates " + Arrays.toString(heats), x -> {
            x.bin(0, false);
            x.bin(20, false);
            x.fill(0, 1000);
            x.fill(1, 1000);
            x.lot(100);
            x.lay(0, 0, 100);
            x.lay(1, 1, 100);
            x.rule(2, need);
            for (int heat : heats) {
                x.plate(heat);
            }
        });
    }

    /** Promise 9: "A PLATE: its number. NONE: there are 4". */
    private static void platesAreFour() {
        SHORT.taken(3, "plate", 100);
        SHORT.taken(3, "plate", 250);
        FULL.refused("plate", 100);
        FULL.refused("plate", 175);
        FULL.refused("plate", 250);
        FULL.refused("plate", 251);
        ChipBoards x = new ChipBoards();
        for (int plate = 0; plate < 4; plate++) {
            CHECK.due("not a PLATE", x.plate(99), -1);
            CHECK.due("PLATE " + plate, x.plate(130), plate);
        }
        CHECK.due("a fifth", x.plate(130), -1);
    }

    /** Promise 9: "NONE: .. or another heat" than 100 .. 250. */
    private static void plateOfAnotherHeat() {
        NEW.refusedOutside(0, 100, 250, "plate", 0);
        SOME.refusedOutside(0, 100, 250, "plate", 0);
        SHORT.refusedOutside(0, 100, 250, "plate", 0);
        NEW.refused("plate", 0);
        NEW.refused("plate", -100);
        NEW.taken(0, "plate", 100);
        NEW.taken(0, "plate", 250);
        ChipBoards x = matsAndPlates(200, 100, 250).fresh();
        CHECK.due("the least heat: SHELL 0", x.shell(0, 0, 1, 0, 0), 2000 + (10000 - 2000) / 8);
        CHECK.due("the greatest heat: SHELL 0", x.shell(0, 1, 1, 0, 0), 2000 + (25000 - 2000) / 8);
        CHECK.due("the least heat: SHELL 8", x.shell(0, 0, 1, 8, 0), 3000);
        CHECK.due("the greatest heat: SHELL 8", x.shell(0, 1, 1, 8, 0), 4875);
    }

    /** Promise 10: "NONE: there is none (such of either)". */
    private static void timeOfNoneSuch() {
        NEW.refused("time", 0, 0);
        SOME.refusedOutside(0, 0, 1, "time", 0, 0);
        SOME.refusedOutside(1, 0, 1, "time", 0, 0);
        SOME.refused("time", 2, 2);
        SOME.refused("time", -1, -1);
        SOME.told(90, "time", 0, 0);
        SOME.told(62, "time", 1, 1);
        SHORT.refused("time", 23, 0);
        SHORT.refused("time", 0, 3);
        FULL.refusedOutside(0, 0, 23, "time", 0, 0);
        FULL.refusedOutside(1, 0, 3, "time", 0, 0);
        FULL.told(180, "time", 0, 0);
        FULL.told(58, "time", 23, 3);
        matsAndPlates(200).refused("time", 0, 0);
        Edges platesAlone = new Edges(CHECK, "plates alone", x -> States.plates(x, 4));
        platesAlone.refused("time", 0, 0);
    }

    /** Promise 10, Terms 2: TIME is "none if not within 400". */
    private static void timeWithinTheLastTick() {
        matsAndPlates(3532, 100).told(399, "time", 0, 0);
        matsAndPlates(3533, 100).told(400, "time", 0, 0);
        matsAndPlates(3550, 100).told(400, "time", 1, 0);
        matsAndPlates(3551, 100).refused("time", 0, 0);
        matsAndPlates(3551, 100).refused("time", 1, 0);
        matsAndPlates(3800, 101).told(400, "time", 0, 0);
        matsAndPlates(3801, 101).refused("time", 0, 0);
        matsAndPlates(5000, 105).refused("time", 0, 0);
    }

    /** Promise 10, Terms 2: "each SHELL's CURE is NEED .. or more", from NEED 1 to 5000. */
    private static void timeAtNeed() {
        matsAndPlates(1, 250).told(44, "time", 0, 0);
        matsAndPlates(5000, 250).told(125, "time", 1, 0);
        matsAndPlates(1, 100).told(138, "time", 1, 0);
        matsAndPlates(2, 100).told(139, "time", 1, 0);
        matsAndPlates(200, 218).told(64, "time", 0, 0);
        matsAndPlates(201, 218).told(65, "time", 0, 0);
        matsAndPlates(199, 222).told(63, "time", 0, 0);
        matsAndPlates(200, 222).told(64, "time", 0, 0);
    }

    /** Promise 10 names no MAT that was pressed among those that have no TIME. */
    private static void timeOfPressed() {
        Edges pressed = new Edges(CHECK, "pressed", x -> {
            States.some(x);
            x.press(0, 1);
        });
        pressed.told(90, "time", 0, 0);
        pressed.told(62, "time", 0, 1);
        pressed.told(1, "fastest", 0);
    }

    /** Promise 11: "NONE: there is none": no such MAT. */
    private static void fastestOfNoMat() {
        NEW.refused("fastest", 0);
        SOME.refusedOutside(0, 0, 1, "fastest", 0);
        SOME.told(1, "fastest", 0);
        SOME.told(1, "fastest", 1);
        SHORT.refused("fastest", 23);
        FULL.refusedOutside(0, 0, 23, "fastest", 0);
        FULL.told(3, "fastest", 23);
        new Edges(CHECK, "plates alone", x -> States.plates(x, 4)).refused("fastest", 0);
    }

    /** Promise 11: "NONE: there is none": no PLATES. */
    private static void fastestOfNoPlates() {
        matsAndPlates(200).refused("fastest", 0);
        matsAndPlates(200).refused("fastest", 1);
        matsAndPlates(200, 100).told(0, "fastest", 0);
    }

    /** Promise 11: "NONE: there is none": no PLATE with a TIME; those without are passed over. */
    private static void fastestWithinTheLastTick() {
        matsAndPlates(3550, 100).told(0, "fastest", 0);
        matsAndPlates(3551, 100).refused("fastest", 0);
        matsAndPlates(3801, 100, 101, 100, 101).refused("fastest", 0);
        matsAndPlates(3800, 100, 101, 100, 101).told(1, "fastest", 0);
        matsAndPlates(3801, 100, 101, 101, 102).told(3, "fastest", 0);
        matsAndPlates(3801, 102, 101, 101, 101).told(0, "fastest", 0);
    }

    /** Promise 11, Terms 2: "the least TIME, of several the least number". */
    private static void fastestOfSeveral() {
        matsAndPlates(200, 250, 250, 250, 250).told(0, "fastest", 0);
        matsAndPlates(200, 249, 100, 250, 250).told(0, "fastest", 0);
        matsAndPlates(200, 162, 163, 161, 100).told(0, "fastest", 1);
        matsAndPlates(200, 163, 162, 161, 100).told(0, "fastest", 1);
        matsAndPlates(200, 161, 163, 162, 163).told(1, "fastest", 1);
        matsAndPlates(200, 100, 150, 200, 250).told(3, "fastest", 1);
    }

    /** Promise 12: "false: there is none such (of either)". */
    private static void pressOfNoneSuch() {
        NEW.refused("press", 0, 0);
        SOME.refusedOutside(0, 0, 1, "press", 0, 0);
        SOME.refusedOutside(1, 0, 1, "press", 0, 0);
        SOME.refused("press", 2, 2);
        SOME.taken(1, "press", 0, 0);
        SOME.taken(1, "press", 0, 1);
        SHORT.refused("press", 23, 0);
        SHORT.refused("press", 0, 3);
        FULL.refusedOutside(0, 0, 23, "press", 0, 0);
        FULL.refusedOutside(1, 0, 3, "press", 0, 0);
        matsAndPlates(200).refused("press", 0, 0);
        new Edges(CHECK, "plates alone", x -> States.plates(x, 4)).refused("press", 0, 0);
    }

    /** Promise 12: "false: .. it was" pressed. */
    private static void pressTwice() {
        SOME.refused("press", 1, 0);
        SOME.refused("press", 1, 1);
        Edges again = new Edges(CHECK, "pressed, then a lesser NEED", x -> {
            States.some(x);
            x.rule(2, 1);
        });
        again.refused("press", 1, 0);
        again.refused("press", 1, 1);
        again.taken(1, "press", 0, 1);
        Edges unpressed = new Edges(CHECK, "as it was before the press", x -> {
            States.some(x);
            x.image(0);
            x.press(0, 0);
            x.again(0);
        });
        unpressed.taken(1, "press", 0, 0);
    }

    /** Promise 12: "false: .. or there is no TIME". */
    private static void pressWithoutTime() {
        matsAndPlates(3551, 100, 101).refused("press", 0, 0);
        matsAndPlates(3551, 100, 101).refused("press", 1, 0);
        matsAndPlates(3551, 100, 101).taken(1, "press", 1, 1);
        ChipBoards x = matsAndPlates(3551, 100).fresh();
        CHECK.due("no TIME", x.press(0, 0), false);
        x.rule(2, 3550);
        CHECK.due("refused once, taken later", x.press(0, 0), true);
    }

    /** Promise 12: "is pressed .. for its TIME", up to 400. */
    private static void pressForTheLastTick() {
        matsAndPlates(3550, 100).taken(1, "press", 0, 0);
        ChipBoards x = matsAndPlates(3550, 100).fresh();
        x.press(1, 0);
        CHECK.due("TICKS", x.mat(1, 7), 400);
        CHECK.due("TICKS of the other", x.mat(0, 7), -1);
        CHECK.due("pressed", x.count(7), 1);
        ChipBoards y = matsAndPlates(1, 250).fresh();
        y.press(0, 0);
        CHECK.due("the fewest TICKS", y.mat(0, 7), 44);
    }

    /** Promise 12 of the last MAT by the last PLATE. */
    private static void pressOfTheLast() {
        FULL.taken(1, "press", 23, 3);
        FULL.taken(1, "press", 0, 0);
        ChipBoards x = FULL.fresh();
        x.press(23, 3);
        for (int mat = 0; mat < 24; mat++) {
            CHECK.due("TICKS of MAT " + mat, x.mat(mat, 7), mat == 23 ? 58 : -1);
        }
    }

    /** Promise 13: "NONE: there is none such (of any)": MAT, PLATE. */
    private static void shellOfNoneSuch() {
        for (int what = 0; what < 3; what++) {
            NEW.refused("shell", 0, 0, 0, 0, what);
            SOME.refusedOutside(0, 0, 1, "shell", 0, 0, 0, 0, what);
            SOME.refusedOutside(1, 0, 1, "shell", 0, 0, 0, 0, what);
            FULL.refusedOutside(0, 0, 23, "shell", 0, 0, 60, 0, what);
            FULL.refusedOutside(1, 0, 3, "shell", 0, 0, 60, 0, what);
        }
        FULL.told(2000, "shell", 23, 3, 0, 0, 0);
        matsAndPlates(200).refused("shell", 0, 0, 0, 0, 0);
        new Edges(CHECK, "plates alone", x -> States.plates(x, 4)).refused("shell", 0, 0, 0, 0, 0);
    }

    /** Promise 13: "so many TICKS, 0 .. 400". */
    private static void shellOfOtherTicks() {
        for (int what = 0; what < 3; what++) {
            SOME.refusedOutside(2, 0, 400, "shell", 0, 0, 0, 0, what);
        }
        SOME.told(2000, "shell", 0, 0, 0, 0, 0);
        matsAndPlates(200, 250).told(24915, "shell", 1, 0, 400, 0, 0);
        matsAndPlates(200, 250).told(59790, "shell", 1, 0, 400, 0, 1);
        matsAndPlates(200, 250).told(2983, "shell", 1, 0, 400, 0, 2);
        matsAndPlates(200, 100).told(3550, "shell", 1, 0, 400, 4, 1);
    }

    /** Promise 13, Terms 2: "A MAT has SHELLS 0 .. 8". */
    private static void shellOfNoShell() {
        for (int what = 0; what < 3; what++) {
            SOME.refusedOutside(3, 0, 8, "shell", 0, 0, 0, 0, what);
            SOME.refusedOutside(3, 0, 8, "shell", 0, 0, 100, 0, what);
        }
        Edges hot = matsAndPlates(200, 250);
        hot.told(18511, "shell", 1, 0, 30, 0, 0);
        hot.told(18511, "shell", 1, 0, 30, 8, 0);
        hot.told(2109, "shell", 1, 0, 30, 0, 1);
        hot.told(2109, "shell", 1, 0, 30, 8, 1);
        hot.told(1702, "shell", 1, 0, 30, 0, 2);
        hot.told(1702, "shell", 1, 0, 30, 8, 2);
    }

    /** Promise 13: "or for another what" than 0 .. 2. */
    private static void shellOfAnotherWhat() {
        SOME.refusedOutside(4, 0, 2, "shell", 0, 0, 0, 0, 0);
        SOME.refusedOutside(4, 0, 2, "shell", 1, 1, 400, 8, 0);
    }

    /** Terms 2: each SHELL's heat "is 2000 at first, with CURE 0". */
    private static void shellAtFirst() {
        ChipBoards x = matsAndPlates(200, 250).fresh();
        for (int shell = 0; shell < 9; shell++) {
            CHECK.due("heat of SHELL " + shell, x.shell(1, 0, 0, shell, 0), 2000);
            CHECK.due("CURE of SHELL " + shell, x.shell(1, 0, 0, shell, 1), 0);
            CHECK.due("STEAM of SHELL " + shell, x.shell(1, 0, 0, shell, 2), 0);
        }
    }

    /** Terms 2: CURE grows where the heat "is above 8000", by whole hundreds. */
    private static void cureAboveItsHeat() {
        int[] heats = {115, 115, 115, 115, 101, 101, 130, 130, 126, 100, 100, 100};
        int[] ticks = {16, 17, 18, 19, 38, 39, 85, 86, 89, 141, 142, 143};
        int[] shells = {0, 0, 0, 0, 0, 0, 4, 4, 4, 4, 4, 4};
        int[] heat = {7904, 8000, 8089, 8172, 8072, 8100, 8099, 8158, 8100, 8183, 8205, 8226};
        int[] cure = {0, 0, 0, 1, 0, 1, 0, 1, 1, 4, 6, 8};
        for (int k = 0; k < heats.length; k++) {
            ChipBoards x = matsAndPlates(200, heats[k]).fresh();
            String name = "plate " + heats[k] + " after " + ticks[k];
            CHECK.due(name + ": heat", x.shell(0, 0, ticks[k], shells[k], 0), heat[k]);
            CHECK.due(name + ": CURE", x.shell(0, 0, ticks[k], shells[k], 1), cure[k]);
        }
    }

    /** Terms 2: STEAM is cut, and "0 for a heat of 10000 or less". */
    private static void steamAboveItsHeat() {
        ChipBoards x = matsAndPlates(200, 101).fresh();
        int[] ticks = {0, 1, 299, 300, 301, 304, 305, 306};
        int[] heat = {2000, 3012, 9999, 10000, 10001, 10004, 10005, 10006};
        int[] steam = {0, 0, 0, 0, 0, 0, 1, 1};
        for (int k = 0; k < ticks.length; k++) {
            String name = "plate 101 after " + ticks[k];
            CHECK.due(name + ": heat", x.shell(1, 0, ticks[k], 0, 0), heat[k]);
            CHECK.due(name + ": STEAM", x.shell(1, 0, ticks[k], 0, 2), steam[k]);
        }
    }

    /** Terms 2: STEAM by DAMP, from 0 to 20. */
    private static void steamOfTheDriest() {
        Edges hot = matsAndPlates(200, 250);
        hot.told(0, "shell", 0, 0, 400, 0, 2);
        hot.told((24915 - 10000) * 20 / 100, "shell", 1, 0, 400, 0, 2);
        hot.told(0, "shell", 1, 0, 1, 0, 2);
    }
}
