import java.util.Random;

/** Long runs of calls, chosen by a fixed seed, on the class and on PlainModel: all answers alike. */
public final class RandomRunsTest {
    private static final Check CHECK = new Check("RandomRunsTest");
    private static final int CALLS = 512;
    private static final int[] STRANGE = {Integer.MIN_VALUE, Integer.MAX_VALUE, -1, -2, 0, 1, 1 << 30,
        -(1 << 30), 31, 32, 100, 65536};

    private final Random random;
    private final ChipBoards x = new ChipBoards();
    private final PlainModel y = new PlainModel();
    // How many calls in a thousand have a strange number in them.
    private final int strange;

    private RandomRunsTest(long seed, int strange) {
        this.random = new Random(seed);
        this.strange = strange;
    }

    public static void main(String[] args) {
        int runs = args.length > 0 ? Integer.parseInt(args[0]) : 300;
        for (int run = 0; run < runs; run++) {
            new RandomRunsTest(1000 + run, run % 10 == 9 ? 400 : 10).go(run);
        }
        CHECK.finish();
    }

    /** A number from least to most, now and then one beside them or far off. */
    private int pick(int least, int most) {
        int luck = random.nextInt(1000);
        if (luck < strange) {
            return STRANGE[random.nextInt(STRANGE.length)];
        }
        if (luck < 2 * strange + 10) {
            return random.nextBoolean() ? least - 1 : most + 1;
        }
        return luck < 60 ? (random.nextBoolean() ? least : most) : least + random.nextInt(most - least + 1);
    }

    private void go(int run) {
        int kind = run % 5;
        for (int call = 0; call < CALLS; call++) {
            String name = "run " + run + ", call " + call;
            int part = random.nextInt(10) < 5 ? kind : random.nextInt(5);
            switch (part) {
                case 0: stock(name); break;
                case 1: press(name); break;
                case 2: dryer(name); break;
                case 3: sheets(name); break;
                default: images(name); break;
            }
        }
    }

    private void stock(String name) {
        int a = pick(0, 5);
        int b = pick(0, 5);
        int bins = Math.max(0, y.count(0) - 1);
        boolean flag = random.nextBoolean();
        switch (random.nextInt(8)) {
            case 0: a = pick(0, 20); CHECK.due(name + " bin", x.bin(a, flag), y.bin(a, flag)); break;
            case 1: b = pick(1, flag ? 3000 : 1000000); CHECK.due(name + " fill", x.fill(a, b), y.fill(a, b)); break;
            case 2: a = pick(1, flag ? 900 : 100000); CHECK.due(name + " lot", x.lot(a), y.lot(a)); break;
            case 3: rule(name, pick(0, 3)); break;
            case 4:
            case 5:
                a = pick(0, bins);
                b = pick(0, bins);
                int g = pick(10, flag ? 300 : 10000);
                CHECK.due(name + " lay", x.lay(a, b, g), y.lay(a, b, g));
                break;
            case 6: a = pick(0, 7); CHECK.due(name + " recall", x.recall(a), y.recall(a)); break;
            default: mat(name); break;
        }
    }

    private void rule(String name, int what) {
        int[] most = {30, 100, 5000, 3};
        int value = pick(0, what >= 0 && what <= 3 ? most[what] : 9);
        CHECK.due(name + " rule", x.rule(what, value), y.rule(what, value));
    }

    private void mat(String name) {
        int mat = pick(0, Math.max(0, y.count(2) - 1));
        int what = pick(0, 7);
        CHECK.due(name + " mat", x.mat(mat, what), y.mat(mat, what));
    }

    private void press(String name) {
        int mat = pick(0, Math.max(0, y.count(2) - 1));
        int plate = pick(0, 3);
        switch (random.nextInt(6)) {
            case 0: plate = pick(100, 250); CHECK.due(name + " plate", x.plate(plate), y.plate(plate)); break;
            case 1: CHECK.due(name + " time", x.time(mat, plate), y.time(mat, plate)); break;
            case 2: CHECK.due(name + " fastest", x.fastest(mat), y.fastest(mat)); break;
            case 3: CHECK.due(name + " press", x.press(mat, plate), y.press(mat, plate)); break;
            case 4: rule(name, 2); break;
            default:
                int ticks = pick(0, 400);
                int shell = pick(0, 8);
                int what = pick(0, 2);
                CHECK.due(name + " shell", x.shell(mat, plate, ticks, shell, what),
                        y.shell(mat, plate, ticks, shell, what));
                break;
        }
    }

    private void dryer(String name) {
        int state = pick(0, 7);
        int event = pick(0, 3);
        int to = pick(0, 7);
        boolean feed = random.nextInt(4) == 0;
        boolean water = random.nextBoolean();
        switch (random.nextInt(5)) {
            case 0:
            case 1: CHECK.due(name + " link", x.link(state, event, to), y.link(state, event, to)); break;
            case 2: CHECK.due(name + " state", x.state(state, feed, water), y.state(state, feed, water)); break;
            case 3: CHECK.due(name + " badRow", x.badRow(), y.badRow()); break;
            default: to = pick(0, 6); CHECK.due(name + " bad", x.bad(to), y.bad(to)); break;
        }
    }

    private void sheets(String name) {
        int w = pick(1, 24);
        int h = pick(1, 24);
        switch (random.nextInt(6)) {
            case 0:
                // Worths that are as their areas make many ways alike.
                boolean alike = random.nextBoolean() && w > 0 && w < 25 && h > 0 && h < 25;
                int side = alike ? 1 + w % 4 : w;
                int height = alike ? 1 + h % 4 : h;
                int worth = alike ? side * height : pick(1, 999);
                CHECK.due(name + " sheet", x.sheet(side, height, worth), y.sheet(side, height, worth));
                break;
            case 1: rule(name, 3); break;
            case 2: CHECK.due(name + " best", x.best(w, h), y.best(w, h)); break;
            default:
                int sheet = pick(-1, Math.max(0, y.count(4) - 1));
                CHECK.due(name + " cuts", x.cuts(w, h, sheet), y.cuts(w, h, sheet));
                break;
        }
    }

    private void images(String name) {
        int k = pick(0, 2);
        int what = pick(0, 30);
        switch (random.nextInt(8)) {
            case 0: CHECK.due(name + " image", x.image(k), y.image(k)); break;
            case 1: CHECK.due(name + " again", x.again(k), y.again(k)); break;
            default: CHECK.due(name + " count", x.count(what), y.count(what)); break;
        }
    }
}
