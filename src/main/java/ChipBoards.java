/**
 * Boards of chips: bins and glue, mats laid and pressed, the dryer's table, boards cut to sheets.
 *
 * <p>What is told lives in Told, so that an image is one copy of it; the working rows of the press,
 * the dryer and the saw are made once and used again by every call.
 */
public final class ChipBoards {
    public static final int NONE = -1;

    private static final int LEAST_MAT_GRAMS = 10;
    private static final int MOST_MAT_GRAMS = 10000;
    private static final int MOST_TICKS = 400;
    private static final int IMAGES = 3;

    private final Told now = new Told();
    private final Told[] images = new Told[IMAGES];
    private final Heating heating = new Heating();
    private final RowSearch search = new RowSearch();
    private final CutTable table = new CutTable();

    public ChipBoards() {
    }

    public int bin(int damp, boolean used) {
        return now.bins.add(damp, used);
    }

    public int fill(int bin, int grams) {
        return now.bins.pour(bin, grams);
    }

    public int lot(int grams) {
        return now.lots.add(grams);
    }

    public boolean rule(int what, int value) {
        boolean taken = now.setRule(what, value);
        if (taken && what == Told.SAW) {
            table.forget();
        }
        return taken;
    }

    public int lay(int face, int core, int g) {
        Bins bins = now.bins;
        if (now.mats.isFull() || g < LEAST_MAT_GRAMS || g > MOST_MAT_GRAMS || !bins.has(face) || !bins.has(core)) {
            return NONE;
        }
        int faceGrams = g * 4 / 10;
        int coreGrams = g - faceGrams;
        int glue = g * now.glue / 100;
        int usedGrams = bins.usedPart(face, faceGrams) + bins.usedPart(core, coreGrams);
        if (!bins.canGive(face, faceGrams, core, coreGrams) || now.lots.total() < glue
                || 100 * usedGrams > now.limit * g) {
            return NONE;
        }
        int damp = (bins.dampOf(face) * faceGrams + bins.dampOf(core) * coreGrams) / g;
        bins.give(face, faceGrams);
        bins.give(core, coreGrams);
        int mat = now.mats.add();
        now.mats.put(mat, Mats.GRAMS, g);
        now.mats.put(mat, Mats.GLUE, glue);
        now.mats.put(mat, Mats.DAMP, damp);
        now.mats.put(mat, Mats.USED, usedGrams);
        now.mats.put(mat, Mats.FACE, face);
        now.mats.put(mat, Mats.CORE, core);
        now.mats.put(mat, Mats.LOTS, now.lots.draw(glue));
        now.mats.put(mat, Mats.TICKS, NONE);
        return mat;
    }

    public int mat(int mat, int what) {
        return now.mats.get(mat, what);
    }

    public int recall(int lot) {
        return now.lots.has(lot) ? now.mats.withLot(lot) : NONE;
    }

    public int plate(int heat) {
        return now.plates.add(heat);
    }

    public int time(int mat, int plate) {
        return timeOf(mat, plate);
    }

    public int fastest(int mat) {
        int found = NONE;
        int least = MOST_TICKS + 1;
        for (int plate = 0; plate < Plates.MOST; plate++) {
            int ticks = timeOf(mat, plate);
            if (ticks != NONE && ticks < least) {
                found = plate;
                least = ticks;
            }
        }
        return found;
    }

    public boolean press(int mat, int plate) {
        int ticks = timeOf(mat, plate);
        if (ticks == NONE || now.mats.isPressed(mat)) {
            return false;
        }
        now.mats.put(mat, Mats.TICKS, ticks);
        return true;
    }

    public int shell(int mat, int plate, int ticks, int shell, int what) {
        if (!now.mats.has(mat) || !now.plates.has(plate) || ticks < 0 || ticks > MOST_TICKS) {
            return NONE;
        }
        heating.begin(now.plates.heatOf(plate));
        for (int tick = 0; tick < ticks; tick++) {
            heating.tick();
        }
        switch (what) {
            case 0:
                return heating.heatOf(shell);
            case 1:
                return heating.cureOf(shell);
            case 2:
                return heating.steamOf(shell, now.mats.get(mat, Mats.DAMP));
            default:
                return NONE;
        }
    }

    public boolean link(int state, int event, int to) {
        return now.dryer.lead(state, event, to);
    }

    public boolean state(int state, boolean feed, boolean water) {
        return now.dryer.equip(state, feed, water);
    }

    public int badRow() {
        return search.find(now.dryer);
    }

    public int bad(int k) {
        int length = search.find(now.dryer);
        return k >= 0 && k < length ? search.eventAt(k) : NONE;
    }

    public int sheet(int w, int h, int worth) {
        int number = now.sheets.add(w, h, worth);
        if (number != NONE) {
            table.forget();
        }
        return number;
    }

    public int best(int w, int h) {
        table.prepare(now.sheets, now.saw);
        return table.worthOf(w, h);
    }

    public int cuts(int w, int h, int sheet) {
        table.prepare(now.sheets, now.saw);
        if (sheet == -1) {
            return table.cutsOf(w, h);
        }
        return now.sheets.has(sheet) ? table.sheetsOf(w, h, sheet) : NONE;
    }

    public int count(int what) {
        if (what >= 10 && what < 10 + Bins.MOST) {
            return now.bins.gramsOf(what - 10);
        }
        if (what >= 20 && what < 20 + Lots.MOST) {
            return now.lots.gramsOf(what - 20);
        }
        switch (what) {
            case 0:
                return now.bins.size;
            case 1:
                return now.lots.size;
            case 2:
                return now.mats.size;
            case 3:
                return now.plates.size;
            case 4:
                return now.sheets.size;
            case 5:
                return now.bins.total();
            case 6:
                return now.lots.total();
            case 7:
                return now.mats.pressed();
            default:
                return NONE;
        }
    }

    public boolean image(int k) {
        if (k < 0 || k >= IMAGES) {
            return false;
        }
        Told kept = images[k];
        if (kept == null) {
            kept = new Told();
            images[k] = kept;
        }
        kept.copyFrom(now);
        return true;
    }

    public boolean again(int k) {
        if (k < 0 || k >= IMAGES) {
            return false;
        }
        Told kept = images[k];
        if (kept == null) {
            return false;
        }
        now.copyFrom(kept);
        table.forget();
        return true;
    }

    private int timeOf(int mat, int plate) {
        if (!now.mats.has(mat) || !now.plates.has(plate)) {
            return NONE;
        }
        int damp = now.mats.get(mat, Mats.DAMP);
        heating.begin(now.plates.heatOf(plate));
        for (int tick = 1; tick <= MOST_TICKS; tick++) {
            heating.tick();
            if (heating.mayOpen(now.need, damp)) {
                return tick;
            }
        }
        return NONE;
    }

    /** All that is told: what an image keeps. */
    private static final class Told {
        static final int GLUE = 0;
        static final int LIMIT = 1;
        static final int NEED = 2;
        static final int SAW = 3;

        final Bins bins = new Bins();
        final Lots lots = new Lots();
        final Mats mats = new Mats();
        final Plates plates = new Plates();
        final Dryer dryer = new Dryer();
        final Sheets sheets = new Sheets();
        int glue = 10;
        int limit = 50;
        int need = 200;
        int saw = 1;

        boolean setRule(int what, int value) {
            if (what == GLUE && value >= 1 && value <= 30) {
                glue = value;
            } else if (what == LIMIT && value >= 0 && value <= 100) {
                limit = value;
            } else if (what == NEED && value >= 1 && value <= 5000) {
                need = value;
            } else if (what == SAW && value >= 0 && value <= 3) {
                saw = value;
            } else {
                return false;
            }
            return true;
        }

        void copyFrom(Told other) {
            bins.copyFrom(other.bins);
            lots.copyFrom(other.lots);
            mats.copyFrom(other.mats);
            plates.copyFrom(other.plates);
            dryer.copyFrom(other.dryer);
            sheets.copyFrom(other.sheets);
            glue = other.glue;
            limit = other.limit;
            need = other.need;
            saw = other.saw;
        }
    }

    private static final class Bins {
        static final int MOST = 6;
        private static final int MOST_GRAMS = 1000000;
        private static final int MOST_DAMP = 20;

        int size = 0;
        private final int[] grams = new int[MOST];
        private final int[] damp = new int[MOST];
        private final boolean[] used = new boolean[MOST];

        int add(int itsDamp, boolean itsUsed) {
            if (size >= MOST || itsDamp < 0 || itsDamp > MOST_DAMP) {
                return NONE;
            }
            grams[size] = 0;
            damp[size] = itsDamp;
            used[size] = itsUsed;
            size++;
            return size - 1;
        }

        boolean has(int bin) {
            return bin >= 0 && bin < size;
        }

        int pour(int bin, int more) {
            // The room left is asked for, since the sum might wrap around.
            if (!has(bin) || more <= 0 || more > MOST_GRAMS - grams[bin]) {
                return NONE;
            }
            grams[bin] += more;
            return grams[bin];
        }

        boolean canGive(int face, int faceGrams, int core, int coreGrams) {
            if (face == core) {
                return gramsOf(face) >= faceGrams + coreGrams;
            }
            return gramsOf(face) >= faceGrams && gramsOf(core) >= coreGrams;
        }

        void give(int bin, int less) {
            if (has(bin)) {
                grams[bin] -= less;
            }
        }

        int gramsOf(int bin) {
            return has(bin) ? grams[bin] : NONE;
        }

        int dampOf(int bin) {
            return has(bin) ? damp[bin] : NONE;
        }

        int usedPart(int bin, int part) {
            return has(bin) && used[bin] ? part : 0;
        }

        int total() {
            int sum = 0;
            for (int bin = 0; bin < size && bin < MOST; bin++) {
                sum += grams[bin];
            }
            return sum;
        }

        void copyFrom(Bins other) {
            size = other.size;
            for (int bin = 0; bin < MOST; bin++) {
                grams[bin] = other.grams[bin];
                damp[bin] = other.damp[bin];
                used[bin] = other.used[bin];
            }
        }
    }

    private static final class Lots {
        static final int MOST = 8;
        private static final int MOST_GRAMS = 100000;

        int size = 0;
        private final int[] grams = new int[MOST];

        int add(int itsGrams) {
            if (size >= MOST || itsGrams < 1 || itsGrams > MOST_GRAMS) {
                return NONE;
            }
            grams[size] = itsGrams;
            size++;
            return size - 1;
        }

        boolean has(int lot) {
            return lot >= 0 && lot < size;
        }

        int gramsOf(int lot) {
            return has(lot) ? grams[lot] : NONE;
        }

        int total() {
            int sum = 0;
            for (int lot = 0; lot < size && lot < MOST; lot++) {
                sum += grams[lot];
            }
            return sum;
        }

        /** Takes glue out of the eldest LOTS that have some; answers which gave, as bits. */
        int draw(int glue) {
            int bits = 0;
            int open = glue;
            for (int lot = 0; lot < size && lot < MOST; lot++) {
                int part = Math.min(open, grams[lot]);
                if (part > 0) {
                    grams[lot] -= part;
                    open -= part;
                    bits |= 1 << lot;
                }
            }
            return bits;
        }

        void copyFrom(Lots other) {
            size = other.size;
            System.arraycopy(other.grams, 0, grams, 0, MOST);
        }
    }

    /** MATS, each a row of facts in the order in which the document numbers them. */
    private static final class Mats {
        static final int GRAMS = 0;
        static final int GLUE = 1;
        static final int DAMP = 2;
        static final int USED = 3;
        static final int FACE = 4;
        static final int CORE = 5;
        static final int LOTS = 6;
        static final int TICKS = 7;
        private static final int FACTS = 8;
        private static final int MOST = 24;

        int size = 0;
        private final int[] facts = new int[MOST * FACTS];

        boolean isFull() {
            return size >= MOST;
        }

        int add() {
            if (isFull()) {
                return NONE;
            }
            size++;
            return size - 1;
        }

        boolean has(int mat) {
            return mat >= 0 && mat < size;
        }

        int get(int mat, int what) {
            return has(mat) && what >= 0 && what < FACTS ? facts[mat * FACTS + what] : NONE;
        }

        void put(int mat, int what, int value) {
            if (has(mat) && what >= 0 && what < FACTS) {
                facts[mat * FACTS + what] = value;
            }
        }

        boolean isPressed(int mat) {
            return get(mat, TICKS) != NONE;
        }

        int pressed() {
            int found = 0;
            for (int mat = 0; mat < size && mat < MOST; mat++) {
                if (isPressed(mat)) {
                    found++;
                }
            }
            return found;
        }

        int withLot(int lot) {
            int bits = 0;
            for (int mat = 0; mat < size && mat < MOST; mat++) {
                if ((get(mat, LOTS) >> lot & 1) != 0) {
                    bits |= 1 << mat;
                }
            }
            return bits;
        }

        void copyFrom(Mats other) {
            size = other.size;
            System.arraycopy(other.facts, 0, facts, 0, MOST * FACTS);
        }
    }

    private static final class Plates {
        static final int MOST = 4;
        private static final int LEAST_HEAT = 100;
        private static final int MOST_HEAT = 250;

        int size = 0;
        private final int[] heat = new int[MOST];

        int add(int itsHeat) {
            if (size >= MOST || itsHeat < LEAST_HEAT || itsHeat > MOST_HEAT) {
                return NONE;
            }
            heat[size] = itsHeat;
            size++;
            return size - 1;
        }

        boolean has(int plate) {
            return plate >= 0 && plate < size;
        }

        int heatOf(int plate) {
            return has(plate) ? heat[plate] : NONE;
        }

        void copyFrom(Plates other) {
            size = other.size;
            System.arraycopy(other.heat, 0, heat, 0, MOST);
        }
    }

    /** The heats and CURES of one MAT under one PLATE, TICK by TICK. */
    private static final class Heating {
        private static final int SHELLS = 9;
        private static final int FIRST_HEAT = 2000;
        private static final int CURE_ABOVE = 8000;
        private static final int STEAM_ABOVE = 10000;

        // SHELL s stands at s + 1; the PLATE is at both ends, so that each SHELL has two neighbours.
        private final int[] heat = new int[SHELLS + 2];
        private final int[] before = new int[SHELLS + 2];
        private final int[] cure = new int[SHELLS];

        void begin(int plateHeat) {
            heat[0] = 100 * plateHeat;
            heat[SHELLS + 1] = 100 * plateHeat;
            for (int shell = 0; shell < SHELLS; shell++) {
                heat[shell + 1] = FIRST_HEAT;
                cure[shell] = 0;
            }
        }

        void tick() {
            System.arraycopy(heat, 0, before, 0, SHELLS + 2);
            for (int shell = 0; shell < SHELLS; shell++) {
                int own = before[shell + 1];
                int next = own + (before[shell] + before[shell + 2] - 2 * own) / 8;
                heat[shell + 1] = next;
                if (next > CURE_ABOVE) {
                    cure[shell] += (next - CURE_ABOVE) / 100;
                }
            }
        }

        boolean mayOpen(int need, int damp) {
            for (int shell = 0; shell < SHELLS; shell++) {
                if (cure[shell] < need || steamOf(shell, damp) > cure[shell]) {
                    return false;
                }
            }
            return true;
        }

        int heatOf(int shell) {
            return shell >= 0 && shell < SHELLS ? heat[shell + 1] : NONE;
        }

        int cureOf(int shell) {
            return shell >= 0 && shell < SHELLS ? cure[shell] : NONE;
        }

        int steamOf(int shell, int damp) {
            if (shell < 0 || shell >= SHELLS) {
                return NONE;
            }
            int over = heat[shell + 1] - STEAM_ABOVE;
            return over > 0 ? over * damp / 100 : 0;
        }
    }

    private static final class Dryer {
        static final int STATES = 8;
        static final int EVENTS = 4;

        private final int[] leads = new int[STATES * EVENTS];
        private final boolean[] feed = new boolean[STATES];
        private final boolean[] water = new boolean[STATES];

        Dryer() {
            for (int place = 0; place < STATES * EVENTS; place++) {
                leads[place] = place / EVENTS;
            }
        }

        private static boolean isState(int state) {
            return state >= 0 && state < STATES;
        }

        private static boolean isEvent(int event) {
            return event >= 0 && event < EVENTS;
        }

        boolean lead(int state, int event, int to) {
            if (!isState(state) || !isEvent(event) || !isState(to)) {
                return false;
            }
            leads[state * EVENTS + event] = to;
            return true;
        }

        boolean equip(int state, boolean itsFeed, boolean itsWater) {
            if (!isState(state)) {
                return false;
            }
            feed[state] = itsFeed;
            water[state] = itsWater;
            return true;
        }

        int after(int state, int event) {
            return isState(state) && isEvent(event) ? leads[state * EVENTS + event] : NONE;
        }

        boolean feeds(int state) {
            return isState(state) && feed[state];
        }

        boolean waters(int state) {
            return isState(state) && water[state];
        }

        void copyFrom(Dryer other) {
            System.arraycopy(other.leads, 0, leads, 0, STATES * EVENTS);
            for (int state = 0; state < STATES; state++) {
                feed[state] = other.feed[state];
                water[state] = other.water[state];
            }
        }
    }

    /**
     * Looks for BAD ROW, breadth first over spots (a STATE with a DANGER).
     *
     * <p>Spots stand in the order of their least rows, and EVENTS are tried from 0 on, so the first
     * row that comes to a spot is the shortest and the least one to it.
     */
    private static final class RowSearch {
        private static final int SPARK = 1;
        private static final int MOST_DANGER = 3;
        private static final int BAD_FROM = 2;
        private static final int DANGERS = MOST_DANGER + 1;
        private static final int SPOTS = Dryer.STATES * DANGERS;

        private final boolean[] seen = new boolean[SPOTS];
        private final int[] queue = new int[SPOTS];
        private final int[] from = new int[SPOTS];
        private final int[] by = new int[SPOTS];
        private final int[] row = new int[SPOTS];
        private int queued = 0;

        /** How many EVENTS BAD ROW has, or NONE; eventAt tells them afterwards. */
        int find(Dryer dryer) {
            for (int spot = 0; spot < SPOTS; spot++) {
                seen[spot] = false;
            }
            queued = 0;
            reach(0, NONE, NONE);
            for (int place = 0; place < queued && place < SPOTS; place++) {
                int state = queue[place] / DANGERS;
                int danger = queue[place] % DANGERS;
                for (int event = 0; event < Dryer.EVENTS; event++) {
                    int nextState = dryer.after(state, event);
                    int nextDanger = dangerAfter(danger, event, dryer.waters(nextState));
                    boolean isNew = reach(nextState * DANGERS + nextDanger, place, event);
                    if (isNew && nextDanger >= BAD_FROM && dryer.feeds(nextState)) {
                        return writeRow(queued - 1);
                    }
                }
            }
            return NONE;
        }

        int eventAt(int k) {
            return k >= 0 && k < SPOTS ? row[k] : NONE;
        }

        private static int dangerAfter(int danger, int event, boolean water) {
            if (event == SPARK) {
                return MOST_DANGER;
            }
            return Math.max(0, danger - (water ? 2 : 1));
        }

        private boolean reach(int spot, int itsFrom, int itsEvent) {
            if (spot < 0 || spot >= SPOTS || seen[spot] || queued < 0 || queued >= SPOTS) {
                return false;
            }
            seen[spot] = true;
            queue[queued] = spot;
            from[queued] = itsFrom;
            by[queued] = itsEvent;
            queued++;
            return true;
        }

        private int writeRow(int last) {
            int length = 0;
            for (int place = last; place > 0 && place < SPOTS && length < SPOTS; place = from[place]) {
                row[length] = by[place];
                length++;
            }
            for (int k = 0; k < length / 2; k++) {
                int event = row[k];
                row[k] = row[length - 1 - k];
                row[length - 1 - k] = event;
            }
            return length;
        }
    }

    private static final class Sheets {
        static final int MOST = 6;
        static final int MOST_SIDE = 24;
        private static final int MOST_WORTH = 999;

        int size = 0;
        private final int[] wide = new int[MOST];
        private final int[] high = new int[MOST];
        private final int[] worth = new int[MOST];

        /** SHEETS and BOARDS have the same bounds. */
        static boolean hasSides(int w, int h) {
            return w >= 1 && w <= MOST_SIDE && h >= 1 && h <= MOST_SIDE;
        }

        int add(int w, int h, int itsWorth) {
            if (size >= MOST || !hasSides(w, h) || itsWorth < 1 || itsWorth > MOST_WORTH) {
                return NONE;
            }
            wide[size] = w;
            high[size] = h;
            worth[size] = itsWorth;
            size++;
            return size - 1;
        }

        boolean has(int number) {
            return number >= 0 && number < size;
        }

        int worthOf(int number) {
            return has(number) ? worth[number] : 0;
        }

        /** The SHEET of the greatest WORTH in a BOARD, of several the least number; NONE if none fits. */
        int dearestIn(int w, int h) {
            int found = NONE;
            for (int number = 0; number < size && number < MOST; number++) {
                if (wide[number] <= w && high[number] <= h && worth[number] > worthOf(found)) {
                    found = number;
                }
            }
            return found;
        }

        void copyFrom(Sheets other) {
            size = other.size;
            System.arraycopy(other.wide, 0, wide, 0, MOST);
            System.arraycopy(other.high, 0, high, 0, MOST);
            System.arraycopy(other.worth, 0, worth, 0, MOST);
        }
    }

    /** The BEST way of every BOARD: its WORTH, how many of each SHEET, how many cuts. */
    private static final class CutTable {
        private static final int SIDE = Sheets.MOST_SIDE + 1;
        private static final int PLACES = SIDE * SIDE;
        private static final int CUTS = Sheets.MOST;

        private final int[] worth = new int[PLACES];
        // A row for each SHEET, then one for the cuts.
        private final int[][] made = new int[CUTS + 1][PLACES];
        private boolean known = false;
        // The best cut found so far of the BOARD that is looked at.
        private int bestWorth = 0;
        private int first = NONE;
        private int second = NONE;

        void forget() {
            known = false;
        }

        void prepare(Sheets sheets, int saw) {
            if (known) {
                return;
            }
            for (int w = 1; w < SIDE; w++) {
                for (int h = 1; h < SIDE; h++) {
                    choose(w, h, sheets, saw);
                }
            }
            known = true;
        }

        int worthOf(int w, int h) {
            return Sheets.hasSides(w, h) ? worth[place(w, h)] : NONE;
        }

        int cutsOf(int w, int h) {
            return Sheets.hasSides(w, h) ? made[CUTS][place(w, h)] : NONE;
        }

        int sheetsOf(int w, int h, int number) {
            boolean isKind = number >= 0 && number < Sheets.MOST;
            return isKind && Sheets.hasSides(w, h) ? made[number][place(w, h)] : NONE;
        }

        private static int place(int w, int h) {
            return w * SIDE + h;
        }

        // Ways are tried in the order in which the document puts them ahead of one another, so that
        // only a greater WORTH takes the place of an earlier way.
        private void choose(int w, int h, Sheets sheets, int saw) {
            int number = sheets.dearestIn(w, h);
            bestWorth = sheets.worthOf(number);
            first = NONE;
            second = NONE;
            for (int left = 1; left + saw < w; left++) {
                tryCut(place(left, h), place(w - saw - left, h));
            }
            for (int lower = 1; lower + saw < h; lower++) {
                tryCut(place(w, lower), place(w, h - saw - lower));
            }
            if (isPlace(first) && isPlace(second)) {
                writeCut(place(w, h));
            } else {
                writeWhole(place(w, h), number);
            }
        }

        private static boolean isPlace(int place) {
            return place >= 0 && place < PLACES;
        }

        private void tryCut(int one, int other) {
            if (!isPlace(one) || !isPlace(other)) {
                return;
            }
            int sum = worth[one] + worth[other];
            if (sum > bestWorth) {
                bestWorth = sum;
                first = one;
                second = other;
            }
        }

        private void writeWhole(int board, int number) {
            worth[board] = bestWorth;
            for (int kind = 0; kind <= CUTS; kind++) {
                made[kind][board] = kind == number ? 1 : 0;
            }
        }

        private void writeCut(int board) {
            worth[board] = bestWorth;
            for (int kind = 0; kind <= CUTS; kind++) {
                made[kind][board] = made[kind][first] + made[kind][second];
            }
            made[CUTS][board]++;
        }
    }
}
