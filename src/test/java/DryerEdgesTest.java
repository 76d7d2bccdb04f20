/** Promises 14 to 17 at their edges: a test for each sentence that names one. */
public final class DryerEdgesTest {
    private static final Check CHECK = new Check("DryerEdgesTest");
    private static final int SPARK = 1;
    private static final Edges NEW = new Edges(CHECK, "new", States::nothing);
    private static final Edges SOME = new Edges(CHECK, "some", States::some);
    private static final Edges LINKED = new Edges(CHECK, "linked", DryerEdgesTest::linked);

    public static void main(String[] args) {
        linkOfNoState();
        linkByNoEvent();
        linkToNoState();
        linkOfTheLast();
        stateOfNoneSuch();
        stateOfTheLast();
        noBadRow();
        noBadRowAtTheBeginning();
        shortestBadRow();
        longestBadRow();
        dangerOfTwo();
        dangerOfNoneAtLeast();
        dangerByWater();
        leastOfSeveral();
        badOfNoneSuch();
        badOfNoRow();
        CHECK.finish();
    }

    /** A table in which each STATE leads elsewhere by each EVENT, with FEED and WATER here and there. */
    private static void linked(ChipBoards x) {
        for (int state = 0; state < 8; state++) {
            for (int event = 0; event < 4; event++) {
                x.link(state, event, (state * 3 + event * 2 + 1) % 8);
            }
            x.state(state, state % 3 == 2, state % 2 == 1);
        }
    }

    private static void dueRow(String name, ChipBoards x, int... want) {
        CHECK.due(name + ": badRow()", x.badRow(), want.length == 0 ? -1 : want.length);
        for (int k = 0; k < want.length; k++) {
            CHECK.due(name + ": bad(" + k + ")", x.bad(k), want[k]);
        }
        CHECK.due(name + ": behind its end", x.bad(want.length), -1);
        CHECK.due(name + ": ahead of it", x.bad(-1), -1);
    }

    /** Promise 14: "false: there is none such (of any)": the STATE. */
    private static void linkOfNoState() {
        for (int event = 0; event < 4; event++) {
            LINKED.refusedOutside(0, 0, 7, "link", 0, event, 3);
        }
        NEW.refusedOutside(0, 0, 7, "link", 0, SPARK, 3);
        SOME.refusedOutside(0, 0, 7, "link", 0, SPARK, 3);
    }

    /** Promise 14: "false: there is none such (of any)": the EVENT. */
    private static void linkByNoEvent() {
        for (int state = 0; state < 8; state++) {
            LINKED.refusedOutside(1, 0, 3, "link", state, 0, 6);
        }
        NEW.refusedOutside(1, 0, 3, "link", 0, 0, 3);
        SOME.refusedOutside(1, 0, 3, "link", 7, 0, 3);
    }

    /** Promise 14: "false: there is none such (of any)": the STATE it leads to. */
    private static void linkToNoState() {
        for (int event = 0; event < 4; event++) {
            LINKED.refusedOutside(2, 0, 7, "link", 0, event, 0);
            LINKED.refusedOutside(2, 0, 7, "link", 7, event, 0);
        }
        NEW.refusedOutside(2, 0, 7, "link", 0, SPARK, 0);
        SOME.refusedOutside(2, 0, 7, "link", 3, SPARK, 0);
        SOME.refused("link", 8, 4, 8);
        SOME.refused("link", -1, -1, -1);
    }

    /** Promise 14: each STATE 0 .. 7 by each EVENT 0 .. 3 to each STATE 0 .. 7. */
    private static void linkOfTheLast() {
        for (int state = 0; state < 8; state++) {
            for (int event = 0; event < 4; event++) {
                int was = (state * 3 + event * 2 + 1) % 8;
                LINKED.told(1, "link", state, event, was);
                LINKED.taken(1, "link", state, event, (was + 1) % 8);
                LINKED.taken(1, "link", state, event, (was + 7) % 8);
            }
        }
        NEW.taken(1, "link", 0, 0, 7);
        NEW.taken(1, "link", 7, 3, 0);
    }

    /** Promise 15: "false: there is none such". */
    private static void stateOfNoneSuch() {
        boolean[] both = {false, true};
        for (boolean feed : both) {
            for (boolean water : both) {
                NEW.refusedOutside(0, 0, 7, "state", 0, feed, water);
                SOME.refusedOutside(0, 0, 7, "state", 0, feed, water);
                LINKED.refusedOutside(0, 0, 7, "state", 0, feed, water);
            }
        }
    }

    /** Promise 15: "FEED and WATER of a STATE from now on", of each STATE 0 .. 7. */
    private static void stateOfTheLast() {
        for (int state = 0; state < 8; state++) {
            boolean feed = state % 3 == 2;
            boolean water = state % 2 == 1;
            LINKED.told(1, "state", state, feed, water);
            LINKED.taken(1, "state", state, !feed, water);
            NEW.taken(1, "state", state, true, false);
            NEW.taken(1, "state", state, true, true);
            ChipBoards x = new ChipBoards();
            x.state(state, true, false);
            x.link(0, SPARK, state);
            dueRow("FEED on in " + state, x, SPARK);
            x.state(state, false, false);
            dueRow("FEED off in " + state, x);
        }
        Edges fed = new Edges(CHECK, "fed", x -> x.state(5, true, false));
        fed.taken(1, "state", 5, true, true);
        fed.taken(1, "state", 5, false, false);
    }

    /** Promise 16: "NONE: there is none". */
    private static void noBadRow() {
        NEW.refused("badRow");
        Edges fedElsewhere = new Edges(CHECK, "FEED where no row leads", x -> {
            for (int state = 1; state < 8; state++) {
                x.state(state, true, false);
            }
        });
        fedElsewhere.refused("badRow");
        Edges sparkOffFeed = new Edges(CHECK, "FEED that every spark turns off", x -> {
            for (int state = 0; state < 7; state++) {
                x.state(state, true, true);
                x.link(state, SPARK, 7);
                x.link(7, state % 4 == SPARK ? 0 : state % 4, 0);
            }
        });
        sparkOffFeed.refused("badRow");
        SOME.told(2, "badRow");
    }

    /** Terms 3: "DANGER is 0 at first, in STATE 0": with FEED on there no row of no EVENTS is BAD. */
    private static void noBadRowAtTheBeginning() {
        ChipBoards x = new ChipBoards();
        x.state(0, true, false);
        dueRow("FEED in STATE 0", x, SPARK);
        x.link(0, SPARK, 1);
        dueRow("the spark leads away", x);
        x.link(1, 0, 0);
        dueRow("and back", x, SPARK, 0);
    }

    /** Promise 16: one EVENT is the fewest. */
    private static void shortestBadRow() {
        Edges spark = new Edges(CHECK, "FEED in STATE 0", x -> x.state(0, true, true));
        spark.told(1, "badRow");
        spark.told(SPARK, "bad", 0);
        spark.refused("bad", 1);
    }

    /** STATES 0 to 7 in a row by EVENT 3; a spark leads to 0, but that in 7 stays there. */
    private static void chain(ChipBoards x) {
        for (int state = 0; state < 7; state++) {
            x.link(state, 3, state + 1);
            x.link(state, SPARK, 0);
        }
        x.link(7, 0, 6);
        x.state(6, true, false);
    }

    /** Promise 16: nine EVENTS: through all STATES, a spark, and one EVENT more. */
    private static void longestBadRow() {
        ChipBoards x = new ChipBoards();
        chain(x);
        dueRow("nine EVENTS", x, 3, 3, 3, 3, 3, 3, 3, SPARK, 0);
        x.state(6, true, true);
        dueRow("WATER at its end", x);
        Edges longest = new Edges(CHECK, "the longest row", DryerEdgesTest::chain);
        longest.told(9, "badRow");
        longest.told(3, "bad", 0);
        longest.told(0, "bad", 8);
        longest.refused("bad", 9);
    }

    /** A spark leads from 0 to 1; from there EVENT 0 leads on, through `between` more STATES, to FEED. */
    private static ChipBoards sparkThen(int between, boolean water) {
        ChipBoards x = new ChipBoards();
        x.link(0, SPARK, 1);
        for (int state = 1; state <= between + 1; state++) {
            x.link(state, SPARK, 1);
            x.link(state, 0, state + 1);
        }
        x.link(between + 2, SPARK, 0);
        x.state(between + 2, true, water);
        return x;
    }

    /** Terms 3: BAD if FEED is on "and DANGER is 2 or more". */
    private static void dangerOfTwo() {
        dueRow("DANGER 2", sparkThen(0, false), SPARK, 0);
        dueRow("DANGER 1", sparkThen(1, false));
        dueRow("DANGER 0", sparkThen(2, false));
        dueRow("DANGER 0 for two EVENTS", sparkThen(3, false));
    }

    /** Terms 3: DANGER is "0 at least": it stays 0 however long no spark comes. */
    private static void dangerOfNoneAtLeast() {
        int[] row = {SPARK, 0, 0, 0, 0, 0, SPARK};
        boolean[] both = {false, true};
        for (boolean water : both) {
            ChipBoards x = new ChipBoards();
            for (int state = 0; state < 7; state++) {
                x.link(state, row[state], state + 1);
                x.state(state, false, water);
            }
            x.state(7, true, water);
            dueRow("DANGER 0 for a while, WATER " + water, x, row);
        }
    }

    /** Terms 3: "one less, or two less if WATER is on in the STATE that is now"; a spark is 3 all the same. */
    private static void dangerByWater() {
        dueRow("DANGER 3 less two", sparkThen(0, true));
        ChipBoards x = sparkThen(0, true);
        x.link(2, SPARK, 2);
        dueRow("a spark where WATER is on", x, SPARK, 0, SPARK);
        ChipBoards y = sparkThen(0, false);
        y.state(0, false, true);
        y.state(1, false, true);
        dueRow("WATER in the STATES before", y, SPARK, 0);
    }

    /** Terms 3: "of several the least (the first EVENT at which they are not alike, the lesser)". */
    private static void leastOfSeveral() {
        ChipBoards x = new ChipBoards();
        x.state(7, true, false);
        x.link(0, SPARK, 1);
        x.link(1, 3, 7);
        dueRow("1, 3", x, 1, 3);
        x.link(1, 2, 7);
        dueRow("1, 2", x, 1, 2);
        x.link(1, 1, 7);
        dueRow("1, 1", x, 1, 1);
        x.link(1, 0, 7);
        dueRow("1, 0", x, 1, 0);
        x.link(0, 0, 2);
        x.link(2, 1, 7);
        dueRow("0, 1 ahead of 1, 0", x, 0, 1);
        x.link(0, 1, 7);
        dueRow("the shortest ahead of the least", x, 1);
    }

    /** Promise 17: "EVENT k of BAD ROW, from 0 on. NONE if there is none such". */
    private static void badOfNoneSuch() {
        SOME.told(2, "bad", 0);
        SOME.told(1, "bad", 1);
        SOME.refusedOutside(0, 0, 1, "bad", 0);
        SOME.refused("bad", 31);
        SOME.refused("bad", 32);
    }

    /** Promise 17 where there is no BAD ROW, and where there was one. */
    private static void badOfNoRow() {
        NEW.refused("bad", 0);
        NEW.refusedOutside(0, 0, 0, "bad", 0);
        Edges ended = new Edges(CHECK, "a row that is no more", x -> {
            x.state(0, true, false);
            x.badRow();
            x.state(0, false, false);
        });
        ended.refused("badRow");
        ended.refused("bad", 0);
    }
}
