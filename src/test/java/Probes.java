import java.util.ArrayList;
import java.util.Arrays;
import java.util.List;
import java.util.function.Supplier;

/**
 * All that can be learnt of an object by calls: two objects with the same answers are alike.
 *
 * <p>Each probe has an object of its own, since it may change it (rules are seen only in what is laid
 * later, say), and some 350 calls at most, so that the 512 of an object are enough.
 */
final class Probes {
    private interface Probe {
        void ask(ChipBoards x, Answers to);
    }

    private static final class Answers {
        private long[] all = new long[64];
        private int size = 0;

        void add(long answer) {
            if (size == all.length) {
                all = Arrays.copyOf(all, 2 * size);
            }
            all[size++] = answer;
        }

        long[] row() {
            return Arrays.copyOf(all, size);
        }
    }

    private Probes() {
    }

    /** The answers of all probes to the object as it is now, and to what each of its images has. */
    static List<long[]> answers(Supplier<ChipBoards> made) {
        List<long[]> all = new ArrayList<>(answersNow(made));
        for (int k = 0; k < 3; k++) {
            int image = k;
            if (made.get().again(k)) {
                all.addAll(answersNow(() -> {
                    ChipBoards x = made.get();
                    x.again(image);
                    return x;
                }));
            } else {
                all.add(new long[] {k});
            }
        }
        return all;
    }

    /** The answers of all probes to the object as it is now, whatever its images have. */
    static List<long[]> answersNow(Supplier<ChipBoards> made) {
        List<long[]> all = new ArrayList<>();
        for (Probe probe : probes()) {
            Answers to = new Answers();
            probe.ask(made.get(), to);
            all.add(to.row());
        }
        return all;
    }

    static int differences(List<long[]> one, List<long[]> other) {
        int found = Math.abs(one.size() - other.size());
        for (int row = 0; row < Math.min(one.size(), other.size()); row++) {
            found += differences(one.get(row), other.get(row));
        }
        return found;
    }

    private static int differences(long[] one, long[] other) {
        int found = Math.abs(one.length - other.length);
        for (int k = 0; k < Math.min(one.length, other.length); k++) {
            found += one[k] == other[k] ? 0 : 1;
        }
        return found;
    }

    private static List<Probe> probes() {
        List<Probe> all = new ArrayList<>();
        all.add(Probes::facts);
        all.add(Probes::press);
        all.add(Probes::whatIsLaidLater);
        all.add((x, to) -> bests(x, to, 1, 12));
        all.add((x, to) -> bests(x, to, 13, 24));
        all.add(Probes::ways);
        all.add(Probes::feedAndWater);
        for (int target = 0; target < 8; target++) {
            int fed = target;
            all.add((x, to) -> leads(x, to, fed));
        }
        return all;
    }

    private static void facts(ChipBoards x, Answers to) {
        for (int what = 0; what < 28; what++) {
            to.add(x.count(what));
        }
        for (int mat = 0; mat < 24; mat++) {
            for (int what = 0; what < 8; what++) {
                to.add(x.mat(mat, what));
            }
        }
        for (int lot = 0; lot < 8; lot++) {
            to.add(x.recall(lot));
        }
        to.add(x.badRow());
        for (int k = 0; k < 10; k++) {
            to.add(x.bad(k));
        }
    }

    private static void press(ChipBoards x, Answers to) {
        for (int mat = 0; mat < 24; mat++) {
            to.add(x.fastest(mat));
            for (int plate = 0; plate < 4; plate++) {
                to.add(x.time(mat, plate));
                to.add(x.shell(mat, plate, 60, 0, 2));
            }
        }
        for (int plate = 0; plate < 4; plate++) {
            to.add(x.shell(0, plate, 1, 8, 0));
            to.add(x.shell(0, plate, 400, 4, 1));
        }
    }

    /** Rules, DAMP and USED of BINS are seen in MATS only; image 2 is spent to lay each one alone. */
    private static void whatIsLaidLater(ChipBoards x, Answers to) {
        to.add(x.bin(3, true));
        to.add(x.bin(17, false));
        for (int bin = 0; bin < 6; bin++) {
            to.add(x.fill(bin, 500));
        }
        to.add(x.lot(300));
        to.add(x.plate(170));
        to.add(x.sheet(4, 4, 4));
        to.add(x.count(4));
        x.image(2);
        int next = x.count(2);
        for (int face = 0; face < 6; face++) {
            for (int core = 0; core < 6; core++) {
                to.add(x.lay(face, core, 100));
                for (int what = 1; what < 7; what++) {
                    to.add(x.mat(next, what));
                }
                x.again(2);
            }
        }
        to.add(x.lay(0, 0, 10));
        for (int plate = 0; plate < 4; plate++) {
            to.add(x.time(0, plate));
        }
        to.add(x.press(0, 0) ? 1 : 0);
    }

    private static void bests(ChipBoards x, Answers to, int least, int most) {
        for (int w = least; w <= most; w++) {
            for (int h = 1; h <= 24; h++) {
                to.add(x.best(w, h));
            }
        }
    }

    private static void ways(ChipBoards x, Answers to) {
        for (int w = 1; w <= 24; w++) {
            for (int sheet = -1; sheet < 6; sheet++) {
                to.add(x.cuts(w, w, sheet));
                to.add(x.cuts(w, 25 - w, sheet));
            }
        }
    }

    /** The only way out of STATE 0 is by `event`, to `state`. */
    private static void onlyWay(ChipBoards x, int event, int state) {
        for (int other = 0; other < 4; other++) {
            x.link(0, other, other == event ? state : 0);
        }
    }

    /** WATER is of any weight only where FEED is on: DANGER 2 becomes 1 or less behind it anyhow. */
    private static void feedAndWater(ChipBoards x, Answers to) {
        x.image(2);
        for (int state = 0; state < 8; state++) {
            onlyWay(x, 1, state);
            to.add(x.badRow());
            x.again(2);
            int between = state == 1 ? 2 : 1;
            x.state(between, false, false);
            onlyWay(x, 1, between);
            for (int event = 0; event < 4; event++) {
                x.link(between, event, event == 0 ? state : between);
            }
            to.add(x.badRow());
            x.again(2);
        }
    }

    /** Where each STATE leads by each EVENT, seen by FEED that is on in one STATE alone. */
    private static void leads(ChipBoards x, Answers to, int fed) {
        for (int state = 0; state < 8; state++) {
            x.state(state, state == fed, false);
        }
        x.image(2);
        for (int state = 0; state < 8; state++) {
            for (int event = 0; event < 4; event++) {
                if (state != 0) {
                    onlyWay(x, 1, state);
                }
                for (int other = 0; other < 4; other++) {
                    if (other != event) {
                        x.link(state, other, state);
                    }
                }
                to.add(x.badRow());
                x.again(2);
            }
        }
    }
}
