import java.util.ArrayList;
import java.util.Arrays;
import java.util.List;

/**
 * The document written down a second time, by other means than the class: to be compared with it.
 *
 * <p>BAD ROW comes of distances to the end (not breadth first), ways to cut are lists of all ways,
 * and heats are reckoned on wide numbers with a cut of its own.
 */
final class PlainModel {
    private record Bin(int grams, int damp, boolean used) {
    }

    private record Mat(int g, int glue, int damp, int used, int face, int core, int lots, int ticks) {
    }

    private record Sheet(int w, int h, int worth) {
    }

    private record Way(int worth, int cuts, int[] sheets) {
    }

    private List<Bin> bins = new ArrayList<>();
    private List<Integer> lots = new ArrayList<>();
    private List<Mat> mats = new ArrayList<>();
    private List<Integer> plates = new ArrayList<>();
    private List<Sheet> sheets = new ArrayList<>();
    private int[] rules = {10, 50, 200, 1};
    private int[][] links = new int[8][4];
    private boolean[] feed = new boolean[8];
    private boolean[] water = new boolean[8];
    private final PlainModel[] images = new PlainModel[3];

    PlainModel() {
        for (int s = 0; s < 8; s++) {
            Arrays.fill(links[s], s);
        }
    }

    private void take(PlainModel other) {
        bins = new ArrayList<>(other.bins);
        lots = new ArrayList<>(other.lots);
        mats = new ArrayList<>(other.mats);
        plates = new ArrayList<>(other.plates);
        sheets = new ArrayList<>(other.sheets);
        rules = other.rules.clone();
        for (int s = 0; s < 8; s++) {
            links[s] = other.links[s].clone();
        }
        feed = other.feed.clone();
        water = other.water.clone();
    }

    private static boolean in(long value, long least, long most) {
        return least <= value && value <= most;
    }

    private static boolean at(int number, List<?> list) {
        return in(number, 0, list.size() - 1);
    }

    int bin(int damp, boolean used) {
        if (bins.size() == 6 || !in(damp, 0, 20)) {
            return -1;
        }
        bins.add(new Bin(0, damp, used));
        return bins.size() - 1;
    }

    int fill(int bin, int grams) {
        if (!at(bin, bins) || grams < 1 || (long) bins.get(bin).grams() + grams > 1000000) {
            return -1;
        }
        take(bin, -grams);
        return bins.get(bin).grams();
    }

    private void take(int bin, int grams) {
        Bin b = bins.get(bin);
        bins.set(bin, new Bin(b.grams() - grams, b.damp(), b.used()));
    }

    int lot(int grams) {
        if (lots.size() == 8 || !in(grams, 1, 100000)) {
            return -1;
        }
        lots.add(grams);
        return lots.size() - 1;
    }

    boolean rule(int what, int value) {
        int[][] bounds = {{1, 30}, {0, 100}, {1, 5000}, {0, 3}};
        if (!in(what, 0, 3) || !in(value, bounds[what][0], bounds[what][1])) {
            return false;
        }
        rules[what] = value;
        return true;
    }

    int lay(int face, int core, int g) {
        if (mats.size() == 24 || !at(face, bins) || !at(core, bins) || !in(g, 10, 10000)) {
            return -1;
        }
        int[] wanted = new int[6];
        int outer = (int) Math.floor(g * 4 / 10.0);
        wanted[face] += outer;
        wanted[core] += g - outer;
        int used = 0;
        long damp = 0;
        for (int b = 0; b < bins.size(); b++) {
            if (bins.get(b).grams() < wanted[b]) {
                return -1;
            }
            used += bins.get(b).used() ? wanted[b] : 0;
            damp += (long) wanted[b] * bins.get(b).damp();
        }
        int glue = g * rules[0] / 100;
        if (lots.stream().mapToInt(i -> i).sum() < glue || used * 100L > (long) rules[1] * g) {
            return -1;
        }
        int bits = 0;
        for (int gram = 0; gram < glue; gram++) {
            int eldest = 0;
            while (lots.get(eldest) == 0) {
                eldest++;
            }
            lots.set(eldest, lots.get(eldest) - 1);
            bits |= 1 << eldest;
        }
        for (int b = 0; b < bins.size(); b++) {
            take(b, wanted[b]);
        }
        mats.add(new Mat(g, glue, (int) (damp / g), used, face, core, bits, -1));
        return mats.size() - 1;
    }

    int mat(int mat, int what) {
        if (!at(mat, mats)) {
            return -1;
        }
        Mat m = mats.get(mat);
        switch (what) {
            case 0: return m.g();
            case 1: return m.glue();
            case 2: return m.damp();
            case 3: return m.used();
            case 4: return m.face();
            case 5: return m.core();
            case 6: return m.lots();
            case 7: return m.ticks();
            default: return -1;
        }
    }

    int recall(int lot) {
        if (!at(lot, lots)) {
            return -1;
        }
        int bits = 0;
        for (int k = 0; k < mats.size(); k++) {
            bits |= (mats.get(k).lots() & 1 << lot) != 0 ? 1 << k : 0;
        }
        return bits;
    }

    int plate(int heat) {
        if (plates.size() == 4 || !in(heat, 100, 250)) {
            return -1;
        }
        plates.add(heat);
        return plates.size() - 1;
    }

    private static long cut(long a, long b) {
        return Long.signum(a) * (Math.abs(a) / b);
    }

    /** Heats (row 0) and CURES (row 1) after some TICKS more. */
    private static long[][] tick(long[][] was, int plate) {
        long[][] is = new long[2][9];
        for (int s = 0; s < 9; s++) {
            long below = s == 0 ? plate * 100L : was[0][s - 1];
            long above = s == 8 ? plate * 100L : was[0][s + 1];
            is[0][s] = was[0][s] + cut(below - was[0][s] + above - was[0][s], 8);
            is[1][s] = was[1][s] + (is[0][s] > 8000 ? cut(is[0][s] - 8000, 100) : 0);
        }
        return is;
    }

    private static long[][] cold() {
        long[][] first = new long[2][9];
        Arrays.fill(first[0], 2000);
        return first;
    }

    private static long steam(long heat, int damp) {
        return heat <= 10000 ? 0 : cut((heat - 10000) * damp, 100);
    }

    int time(int mat, int plate) {
        if (!at(mat, mats) || !at(plate, plates)) {
            return -1;
        }
        long[][] now = cold();
        for (int ticks = 1; ticks <= 400; ticks++) {
            now = tick(now, plates.get(plate));
            boolean open = true;
            for (int s = 0; s < 9; s++) {
                open &= now[1][s] >= rules[2] && now[1][s] >= steam(now[0][s], mats.get(mat).damp());
            }
            if (open) {
                return ticks;
            }
        }
        return -1;
    }

    int fastest(int mat) {
        int found = -1;
        for (int p = plates.size() - 1; p >= 0; p--) {
            int ticks = time(mat, p);
            if (ticks > 0 && (found < 0 || ticks <= time(mat, found))) {
                found = p;
            }
        }
        return found;
    }

    boolean press(int mat, int plate) {
        int ticks = time(mat, plate);
        if (ticks < 0 || mats.get(mat).ticks() >= 0) {
            return false;
        }
        Mat m = mats.get(mat);
        mats.set(mat, new Mat(m.g(), m.glue(), m.damp(), m.used(), m.face(), m.core(), m.lots(), ticks));
        return true;
    }

    int shell(int mat, int plate, int ticks, int shell, int what) {
        if (!at(mat, mats) || !at(plate, plates) || !in(ticks, 0, 400) || !in(shell, 0, 8) || !in(what, 0, 2)) {
            return -1;
        }
        long[][] now = cold();
        for (int t = 0; t < ticks; t++) {
            now = tick(now, plates.get(plate));
        }
        return (int) (what == 2 ? steam(now[0][shell], mats.get(mat).damp()) : now[what][shell]);
    }

    boolean link(int state, int event, int to) {
        if (!in(state, 0, 7) || !in(event, 0, 3) || !in(to, 0, 7)) {
            return false;
        }
        links[state][event] = to;
        return true;
    }

    boolean state(int state, boolean itsFeed, boolean itsWater) {
        if (!in(state, 0, 7)) {
            return false;
        }
        feed[state] = itsFeed;
        water[state] = itsWater;
        return true;
    }

    private int dangerAfter(int danger, int event, int to) {
        if (event == 1) {
            return 3;
        }
        return Math.max(0, danger - 1 - (water[to] ? 1 : 0));
    }

    private int[] badRowItself() {
        int far = 1000;
        int[][] toEnd = new int[8][4];
        for (int s = 0; s < 8; s++) {
            for (int d = 0; d < 4; d++) {
                toEnd[s][d] = feed[s] && d >= 2 ? 0 : far;
            }
        }
        for (int turn = 0; turn < 40; turn++) {
            for (int s = 0; s < 8; s++) {
                for (int d = 0; d < 4; d++) {
                    for (int e = 0; e < 4; e++) {
                        int to = links[s][e];
                        toEnd[s][d] = Math.min(toEnd[s][d], 1 + toEnd[to][dangerAfter(d, e, to)]);
                    }
                }
            }
        }
        if (toEnd[0][0] >= far) {
            return null;
        }
        int[] row = new int[toEnd[0][0]];
        int state = 0;
        int danger = 0;
        for (int k = 0; k < row.length; k++) {
            int event = 0;
            while (toEnd[links[state][event]][dangerAfter(danger, event, links[state][event])]
                    != row.length - 1 - k) {
                event++;
            }
            row[k] = event;
            danger = dangerAfter(danger, event, links[state][event]);
            state = links[state][event];
        }
        return row;
    }

    int badRow() {
        int[] row = badRowItself();
        return row == null ? -1 : row.length;
    }

    int bad(int k) {
        int[] row = badRowItself();
        return row == null || !in(k, 0, row.length - 1) ? -1 : row[k];
    }

    int sheet(int w, int h, int worth) {
        if (sheets.size() == 6 || !in(w, 1, 24) || !in(h, 1, 24) || !in(worth, 1, 999)) {
            return -1;
        }
        sheets.add(new Sheet(w, h, worth));
        return sheets.size() - 1;
    }

    private static Way join(Way one, Way other) {
        int[] sum = new int[6];
        for (int s = 0; s < 6; s++) {
            sum[s] = one.sheets()[s] + other.sheets()[s];
        }
        return new Way(one.worth() + other.worth(), one.cuts() + other.cuts() + 1, sum);
    }

    /** All ways of a BOARD whose parts are cut the BEST way, in the document's order. */
    private List<Way> ways(int w, int h, Way[][] known) {
        List<Way> all = new ArrayList<>();
        all.add(new Way(0, 0, new int[6]));
        for (int s = 0; s < sheets.size(); s++) {
            if (sheets.get(s).w() <= w && sheets.get(s).h() <= h) {
                int[] one = new int[6];
                one[s] = 1;
                all.add(new Way(sheets.get(s).worth(), 0, one));
            }
        }
        for (int left = 1; left < w; left++) {
            int right = w - left - rules[3];
            if (right >= 1) {
                all.add(join(way(left, h, known), way(right, h, known)));
            }
        }
        for (int lower = 1; lower < h; lower++) {
            int upper = h - lower - rules[3];
            if (upper >= 1) {
                all.add(join(way(w, lower, known), way(w, upper, known)));
            }
        }
        return all;
    }

    private Way way(int w, int h, Way[][] known) {
        if (known[w][h] == null) {
            List<Way> all = ways(w, h, known);
            int most = all.stream().mapToInt(Way::worth).max().getAsInt();
            known[w][h] = all.stream().filter(one -> one.worth() == most).findFirst().get();
        }
        return known[w][h];
    }

    int best(int w, int h) {
        return in(w, 1, 24) && in(h, 1, 24) ? way(w, h, new Way[25][25]).worth() : -1;
    }

    int cuts(int w, int h, int sheet) {
        if (!in(w, 1, 24) || !in(h, 1, 24) || sheet != -1 && !at(sheet, sheets)) {
            return -1;
        }
        Way way = way(w, h, new Way[25][25]);
        return sheet == -1 ? way.cuts() : way.sheets()[sheet];
    }

    int count(int what) {
        int[] sizes = {bins.size(), lots.size(), mats.size(), plates.size(), sheets.size()};
        if (in(what, 0, 4)) {
            return sizes[what];
        }
        if (what == 5) {
            return bins.stream().mapToInt(Bin::grams).sum();
        }
        if (what == 6) {
            return lots.stream().mapToInt(i -> i).sum();
        }
        if (what == 7) {
            return (int) mats.stream().filter(m -> m.ticks() != -1).count();
        }
        if (in(what, 10, 15) && what - 10 < bins.size()) {
            return bins.get(what - 10).grams();
        }
        return in(what, 20, 27) && what - 20 < lots.size() ? lots.get(what - 20) : -1;
    }

    boolean image(int k) {
        if (!in(k, 0, 2)) {
            return false;
        }
        images[k] = new PlainModel();
        images[k].take(this);
        return true;
    }

    boolean again(int k) {
        if (!in(k, 0, 2) || images[k] == null) {
            return false;
        }
        take(images[k]);
        return true;
    }
}
