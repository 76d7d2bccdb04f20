/** Promises 14 to 17: THE DRYER's table and BAD ROW. */
public final class DryerTest {
    private static final Check CHECK = new Check("DryerTest");

    public static void main(String[] args) {
        wrongInputs();
        leadsAtFirst();
        sparkAtOnce();
        dangerFades();
        waterWhereItIsNow();
        longestWay();
        leastOfTheShortest();
        CHECK.finish();
    }

    private static void dueRow(String name, ChipBoards x, int... want) {
        CHECK.due(name + ": badRow()", x.badRow(), want.length);
        for (int k = 0; k < want.length; k++) {
            CHECK.due(name + ": bad(" + k + ")", x.bad(k), want[k]);
        }
        CHECK.due(name + ": behind its end", x.bad(want.length), -1);
        CHECK.due(name + ": bad(-1)", x.bad(-1), -1);
        CHECK.due(name + ": bad(min)", x.bad(Integer.MIN_VALUE), -1);
        CHECK.due(name + ": bad(max)", x.bad(Integer.MAX_VALUE), -1);
    }

    private static void dueNone(String name, ChipBoards x) {
        CHECK.due(name + ": badRow()", x.badRow(), -1);
        for (int k = -2; k < 40; k++) {
            CHECK.due(name + ": bad(" + k + ")", x.bad(k), -1);
        }
    }

    private static void wrongInputs() {
        ChipBoards x = new ChipBoards();
        int[] bad = {-1, 8, Integer.MIN_VALUE, Integer.MAX_VALUE};
        for (int value : bad) {
            CHECK.due("link from " + value, x.link(value, 0, 0), false);
            CHECK.due("link by " + value, x.link(0, value, 0), false);
            CHECK.due("link to " + value, x.link(0, 0, value), false);
            CHECK.due("state " + value, x.state(value, true, true), false);
        }
        CHECK.due("link by 4", x.link(0, 4, 0), false);
        CHECK.due("link(7, 3, 7)", x.link(7, 3, 7), true);
        CHECK.due("state(7)", x.state(7, true, true), true);
        dueNone("state 7 is not reached", x);
    }

    private static void leadsAtFirst() {
        for (int state = 1; state < 8; state++) {
            ChipBoards x = new ChipBoards();
            x.link(0, 3, state);
            x.state(state, true, true);
            dueRow("STATE " + state + " leads to itself by a spark", x, 3, 1);
            x.link(state, 1, 0);
            dueNone("no longer", x);
            x.link(0, 1, state);
            dueRow("the spark leads there", x, 1);
        }
    }

    private static void sparkAtOnce() {
        ChipBoards x = new ChipBoards();
        dueNone("new", x);
        x.state(0, true, true);
        dueRow("a spark where chips are fed, water or not", x, 1);
        x.state(0, false, true);
        dueNone("fed no longer", x);
        x.link(0, 1, 5);
        x.state(5, true, false);
        dueRow("FEED where the spark leads", x, 1);
    }

    private static void dangerFades() {
        ChipBoards x = new ChipBoards();
        x.link(0, 1, 1);
        x.link(1, 1, 1);
        x.link(1, 2, 2);
        x.state(2, true, false);
        x.link(2, 1, 0);
        dueRow("DANGER 2 is bad", x, 1, 2);
        x.link(1, 2, 3);
        x.link(3, 0, 2);
        x.link(3, 1, 0);
        dueNone("DANGER 1 is not", x);
        x.link(3, 1, 3);
        dueRow("a second spark in between, DANGER 2 behind it", x, 1, 2, 1, 0);
    }

    private static void waterWhereItIsNow() {
        ChipBoards x = new ChipBoards();
        x.link(0, 1, 1);
        x.link(1, 0, 2);
        x.link(2, 1, 1);
        x.state(2, true, false);
        x.state(1, false, true);
        dueRow("WATER in the STATE left is nothing", x, 1, 0);
        x.state(2, true, true);
        dueNone("WATER in the STATE that is now", x);
        x.state(2, true, false);
        x.state(1, false, false);
        x.link(1, 0, 3);
        x.link(3, 0, 2);
        x.link(3, 1, 1);
        dueNone("two EVENTS behind the spark", x);
    }

    private static void longestWay() {
        ChipBoards x = new ChipBoards();
        for (int state = 0; state < 7; state++) {
            for (int event = 0; event < 4; event++) {
                x.link(state, event, event == 3 ? state + 1 : 0);
            }
        }
        x.link(7, 1, 0);
        x.state(7, true, false);
        x.link(6, 1, 7);
        dueRow("through all STATES", x, 3, 3, 3, 3, 3, 3, 1);
        x.link(6, 1, 5);
        dueNone("no spark on the last steps", x);
        x.link(6, 1, 6);
        dueRow("a spark in STATE 6", x, 3, 3, 3, 3, 3, 3, 1, 3);
    }

    private static void leastOfTheShortest() {
        ChipBoards x = new ChipBoards();
        x.link(0, 0, 2);
        x.link(0, 1, 3);
        x.link(0, 2, 1);
        x.link(0, 3, 1);
        x.link(1, 1, 4);
        x.state(4, true, false);
        dueRow("2 ahead of 3", x, 2, 1);
        x.link(3, 3, 4);
        dueRow("1, 3 ahead of 2, 1", x, 1, 3);
        x.link(2, 1, 4);
        dueRow("0, 1 ahead of 1, 3", x, 0, 1);
        x.link(0, 1, 4);
        dueRow("shorter, though not less", x, 1);
    }
}
