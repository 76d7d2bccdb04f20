import java.util.List;
import java.util.function.Consumer;

/** A state of the class, made anew for each call that is tried in it. */
final class Edges {
    private final Check check;
    private final String state;
    private final Consumer<ChipBoards> before;
    private List<long[]> untouched = null;

    Edges(Check check, String state, Consumer<ChipBoards> before) {
        this.check = check;
        this.state = state;
        this.before = before;
    }

    ChipBoards fresh() {
        ChipBoards x = new ChipBoards();
        before.accept(x);
        return x;
    }

    /** The call is refused, and nothing has changed by it. */
    void refused(String name, Object... args) {
        told(Calls.refusal(name), name, args);
    }

    /** The call is refused for every number at place `at` of its own beside least .. most. */
    void refusedOutside(int at, int least, int most, String name, Object... args) {
        int[] outside = {least - 1, most + 1, Integer.MIN_VALUE, Integer.MAX_VALUE};
        for (int value : outside) {
            Object[] own = args.clone();
            own[at] = value;
            refused(name, own);
        }
    }

    /** The call has this answer, and nothing has changed by it. */
    void told(long want, String name, Object... args) {
        dueAnswer(want, name, args);
        check.due(title(name, args) + ": answers changed by it", changed(name, args), 0);
    }

    /** The call has this answer, and later calls tell that something has changed by it. */
    void taken(long want, String name, Object... args) {
        dueAnswer(want, name, args);
        check.due(title(name, args) + ": is seen later", changed(name, args) > 0, true);
    }

    private String title(String name, Object... args) {
        return state + ": " + Calls.text(name, args);
    }

    private void dueAnswer(long want, String name, Object... args) {
        check.due(title(name, args), Calls.of(fresh(), name, args), want);
    }

    private int changed(String name, Object... args) {
        if (untouched == null) {
            untouched = Probes.answers(this::fresh);
        }
        List<long[]> touched = Probes.answers(() -> {
            ChipBoards x = fresh();
            Calls.of(x, name, args);
            return x;
        });
        return Probes.differences(untouched, touched);
    }
}
