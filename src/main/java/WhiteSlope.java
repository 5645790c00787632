/** Tracks up a white slope. The document's words (CELL, PLACE, TICK, TEXT ..) name what is meant here. */
public final class WhiteSlope {
    public static final int BAD = -1000000001, NO = -1000000002, FULL = -1000000003, NONE = -1000000005, NOTHING = -1000000011, KIND = -1000000012, INDEX = -1000000013, SIZE = -1000000014;

    private static final int ROWS = 5, COLUMNS = 6, CELLS = 30, DIRECTIONS = 4;
    private static final int MOST_STEEP = 60, SLIDES_FROM = 30, MOST_LOAD = 999;
    private static final int MOST_DANGER = 5, MOST_HOUR = 23, MOST_FALL = 9;
    private static final int MOST_PLAIN_RISK = 999, MOST_ASKED_RISK = 99999;
    private static final int MOST_PLAIN_HOLD = 99, MOST_STEP = 99;
    private static final int MOST_TICKS = 48, MOST_TICKS_TOLD = 30;
    private static final int TRACK_CELLS = 24, MOST_BOUND_STEPS = 40;
    private static final int MOST_HUNDREDTHS = 100, MOST_SIGNS = 12;
    private static final int MOST_TEXTS = 14, TAPE_BYTES = 96, FAULT_FROM = -100;
    private static final int RISK_KEY = 0, HOLD_KEY = 1, STEP_KEY = 2;
    private static final int SHEETS = 4, SHEET_PLACES = 24, MOST_FLOAT = 99999;
    private static final int MISSING = -1, SHORTS = 0, FLOATS = 1;
    private static final int SLOTS = 5, HOLDS_NOTHING = 0, HOLDS_PLACE = 1, HOLDS_SHEET = 2, HOLDS_NUMBER = 3;
    private static final int MOST_WAITING = 60;

    private final Laws laws;
    private final Mountain now;
    private final Mountain image;
    private final Mountain thought;
    private final Ways ways;
    private final Tape tape;
    private final Reader reader;
    private final Sheet[] sheets;
    private final Slot[] slots;
    private final int[] waiting;
    private int waits;
    private boolean imageKept;

    public WhiteSlope() {
        laws = new Laws();
        now = new Mountain(laws);
        image = new Mountain(laws);
        thought = new Mountain(laws);
        ways = new Ways();
        tape = new Tape();
        reader = new Reader(tape);
        sheets = new Sheet[SHEETS];
        for (int i = 0; i < SHEETS; i++) {
            sheets[i] = new Sheet();
        }
        slots = new Slot[SLOTS];
        for (int i = 0; i < SLOTS; i++) {
            slots[i] = new Slot();
        }
        waiting = new int[MOST_WAITING];
    }

    // ---- places, the day

    public int place(int cell, int kind, int steep, int load) {
        if (!isCell(cell) || !Kinds.isKind(kind) || !isWithin(steep, 0, MOST_STEEP) || !isWithin(load, 0, MOST_LOAD)) {
            return BAD;
        }
        int was = now.kinds[cell];
        now.kinds[cell] = kind;
        now.steeps[cell] = steep;
        now.loads[cell] = load;
        return was;
    }

    public int told(int cell, int what) {
        if (!isCell(cell)) {
            return BAD;
        }
        switch (what) {
            case 0:
                return now.kinds[cell];
            case 1:
                return now.steeps[cell];
            case 2:
                return now.loads[cell];
            case 3:
                return now.plainRisk(cell);
            case 4:
                return now.riskAbove(cell);
            case 5:
                return now.risk(cell);
            case 6:
                return Kinds.hold(now.kinds[cell], now.plainHold(cell), now.sun());
            case 7:
                return Kinds.worth(now.kinds[cell], now.steeps[cell], now.loads[cell]);
            default:
                return BAD;
        }
    }

    public int as(int cell, int kind) {
        if (!isCell(cell) || !Kinds.isKind(kind)) {
            return BAD;
        }
        return Kinds.isUnder(now.kinds[cell], kind) ? now.steeps[cell] : KIND;
    }

    public int turns(int cell, int kind) {
        if (!isCell(cell) || !Kinds.isKind(kind)) {
            return BAD;
        }
        int was = now.kinds[cell];
        now.kinds[cell] = kind;
        return was;
    }

    public int set(int cell, int what, int v) {
        if (!isCell(cell)) {
            return BAD;
        }
        int was = BAD;
        if (what == 0 && isWithin(v, 0, MOST_STEEP)) {
            was = now.steeps[cell];
            now.steeps[cell] = v;
        } else if (what == 1 && isWithin(v, 0, MOST_LOAD)) {
            was = now.loads[cell];
            now.loads[cell] = v;
        }
        return was;
    }

    public int today(int what, int v) {
        int was = BAD;
        if (what == 0 && isWithin(v, 0, MOST_DANGER)) {
            was = now.danger;
            now.danger = v;
        } else if (what == 1 && isWithin(v, 0, MOST_HOUR)) {
            was = now.hour;
            now.hour = v;
        } else if (what == 2 && isWithin(v, 0, MOST_FALL)) {
            was = now.fall;
            now.fall = v;
        }
        return was;
    }

    public int deal() {
        now.drawByLot();
        return now.allLoad();
    }

    public int seed(int v) {
        int was = now.z;
        now.z = v;
        return was;
    }

    // ---- ticks

    public int run(int n) {
        if (!isWithin(n, 1, MOST_TICKS)) {
            return BAD;
        }
        return now.tickOften(n);
    }

    public int ahead(int n, int what) {
        if (!isWithin(n, 0, MOST_TICKS) || !isWithin(what, 0, 3)) {
            return BAD;
        }
        thought.become(now);
        int slides = thought.tickOften(n);
        switch (what) {
            case 0:
                return thought.allLoad();
            case 1:
                return slides;
            case 2:
                return thought.loads[thought.mostLoaded()];
            default:
                return thought.mostLoaded();
        }
    }

    public int calm() {
        thought.become(now);
        thought.brace();
        for (int n = 1; n <= MOST_TICKS; n++) {
            if (thought.tick() > 0) {
                return n;
            }
        }
        return NONE;
    }

    // ---- the track

    public int track(int cell) {
        if (!isCell(cell)) {
            return BAD;
        }
        int many = now.trackCells;
        if (many > 0 && !isBeside(now.trackRow[many - 1], cell)) {
            return NO;
        }
        if (many >= TRACK_CELLS) {
            return FULL;
        }
        now.trackRow[many] = cell;
        now.trackCells = many + 1;
        return now.trackCells;
    }

    public int wipe() {
        int had = now.trackCells;
        now.trackCells = 0;
        return had;
    }

    public int at(int i) {
        if (i < 0) {
            return BAD;
        }
        return i < now.trackCells ? now.trackRow[i] : NONE;
    }

    public int along(int what) {
        if (!isWithin(what, 0, 4)) {
            return BAD;
        }
        if (now.trackCells == 0) {
            return NONE;
        }
        switch (what) {
            case 0:
                return now.trackRisk();
            case 1:
                return now.trackBreath();
            case 2:
                return now.trackTurns();
            case 3:
                return now.trackSteepest();
            default:
                return now.trackRiskiest();
        }
    }

    public int turnBack(int r) {
        if (!isWithin(r, 0, MOST_ASKED_RISK)) {
            return BAD;
        }
        now.weighRisks();
        for (int i = 0; i < now.trackCells; i++) {
            if (now.risks[now.trackRow[i]] > r) {
                return i;
            }
        }
        return NONE;
    }

    // ---- ways

    public int way(int from, int to, int what) {
        if (!isCell(from) || !isCell(to) || what < 0 || isWithin(what, 3, 9)) {
            return BAD;
        }
        ways.findTo(now, to);
        switch (what) {
            case 0:
                return ways.risksFrom(from);
            case 1:
                return ways.stepsFrom(from);
            case 2:
                return ways.breathFrom(now, from);
            default:
                return ways.cellFrom(now, from, what - 10);
        }
    }

    public int bound(int from, int to, int n) {
        if (!isCell(from) || !isCell(to) || !isWithin(n, 0, MOST_BOUND_STEPS)) {
            return BAD;
        }
        return ways.leastWithin(now, from, to, n);
    }

    public int wall(int from, int to) {
        if (!isCell(from) || !isCell(to)) {
            return BAD;
        }
        return ways.leastSteep(now, from, to);
    }

    public int reach(int cell, int r) {
        if (!isCell(cell) || !isWithin(r, 0, MOST_ASKED_RISK)) {
            return BAD;
        }
        return ways.comeTo(now, cell, r);
    }

    public long odds(int p, int m, int part) {
        if (!isWithin(p, 0, MOST_HUNDREDTHS) || !isWithin(m, 0, MOST_SIGNS) || !isWithin(part, 0, 1)) {
            return BAD;
        }
        int above = p;
        for (int i = 0; i < m; i++) {
            above *= 3;
        }
        int below = above + MOST_HUNDREDTHS - p;
        int common = commonDivisor(above, below);
        if (common < 1) {
            return BAD;
        }
        return part == 0 ? above / common : below / common;
    }

    // ---- texts

    public int feed(int a, int b, int c) {
        if (!tape.hasRoomFor(12)) {
            return FULL;
        }
        tape.takeInt(a);
        tape.takeInt(b);
        tape.takeInt(c);
        return tape.length;
    }

    public int trim(int n) {
        if (!isWithin(n, 0, tape.length)) {
            return BAD;
        }
        tape.length = n;
        return n;
    }

    public int text() {
        int fault = reader.faultOfTape();
        tape.length = 0;
        if (fault != NONE) {
            return FAULT_FROM - fault;
        }
        int number = now.texts;
        if (number >= MOST_TEXTS) {
            return FULL;
        }
        laws.rows[number].become(reader.law);
        now.texts = number + 1;
        return number;
    }

    public int textTold(int text, int what) {
        if (!isWithin(text, 0, now.texts - 1) || !isWithin(what, 0, 1)) {
            return BAD;
        }
        return what == 0 ? laws.rows[text].key : laws.rows[text].pieces;
    }

    public int why(int key) {
        if (!isWithin(key, RISK_KEY, STEP_KEY)) {
            return BAD;
        }
        return laws.lastOf(key, now.texts);
    }

    // ---- sheets, slots

    public int sheet(int sheet, int sort, int n) {
        if (!isSheet(sheet) || !isWithin(sort, MISSING, FLOATS)) {
            return BAD;
        }
        if (sort == MISSING) {
            sheets[sheet].renew(MISSING, 0);
            return 0;
        }
        if (n > SHEET_PLACES) {
            return BAD;
        }
        if (n < 0) {
            return SIZE;
        }
        sheets[sheet].renew(sort, n);
        return n;
    }

    public int mark(int sheet, int place, int v) {
        if (!isSheet(sheet)) {
            return BAD;
        }
        Sheet s = sheets[sheet];
        if (s.sort == MISSING) {
            return NOTHING;
        }
        if (!s.hasPlace(place)) {
            return INDEX;
        }
        if (s.sort == SHORTS) {
            if (v == NONE) {
                return KIND;
            }
            s.row[place] = (short) v;
            return 1;
        }
        if (v != NONE && !isWithin(v, -MOST_FLOAT, MOST_FLOAT)) {
            return BAD;
        }
        s.row[place] = v;
        return 1;
    }

    public int pour(int sheet, int row) {
        if (!isSheet(sheet) || !isWithin(row, 0, ROWS - 1)) {
            return BAD;
        }
        Sheet s = sheets[sheet];
        if (s.sort == MISSING) {
            return NOTHING;
        }
        int otherwise = 0;
        for (int column = 0; column < COLUMNS && column < s.places; column++) {
            int cell = row * COLUMNS + column;
            int load = s.isNumber(column) ? heldWithin(s.row[column], 0, MOST_LOAD) : now.loads[cell];
            if (load != now.loads[cell]) {
                otherwise++;
                now.loads[cell] = load;
            }
        }
        return otherwise;
    }

    public int reads(int sheet) {
        if (!isSheet(sheet)) {
            return BAD;
        }
        Sheet s = sheets[sheet];
        if (s.sort == MISSING) {
            return NOTHING;
        }
        now.weighRisks();
        for (int i = 0; i < s.places; i++) {
            if (s.isNumber(i) && s.row[i] != now.risks[i]) {
                return i;
            }
        }
        return NONE;
    }

    public int copy(int from, int place, int to, int at, int many) {
        if (!isSheet(from) || !isSheet(to)) {
            return BAD;
        }
        Sheet source = sheets[from];
        Sheet target = sheets[to];
        if (source.sort == MISSING || target.sort == MISSING) {
            return NOTHING;
        }
        if (source.sort != target.sort) {
            return KIND;
        }
        if (!source.hasPlaces(place, many) || !target.hasPlaces(at, many)) {
            return INDEX;
        }
        System.arraycopy(source.row, place, target.row, at, many);
        return many;
    }

    public int lay(int slot, int thing, int k) {
        if (!isSlot(slot) || !isWithin(thing, HOLDS_NOTHING, HOLDS_NUMBER)
                || thing == HOLDS_PLACE && !isCell(k) || thing == HOLDS_SHEET && !isSheet(k)) {
            return BAD;
        }
        if (thing == HOLDS_SHEET && sheets[k].sort == MISSING) {
            return NOTHING;
        }
        Slot s = slots[slot];
        int held = s.thing;
        s.thing = thing;
        if (thing == HOLDS_PLACE) {
            s.kind = now.kinds[k];
            s.steep = now.steeps[k];
            s.load = now.loads[k];
        } else if (thing == HOLDS_SHEET) {
            s.sheet.become(sheets[k]);
        } else if (thing == HOLDS_NUMBER) {
            s.number = k;
        }
        return held;
    }

    public int ask(int slot, int kind) {
        if (!isSlot(slot) || !Kinds.isKind(kind)) {
            return BAD;
        }
        Slot s = slots[slot];
        if (s.thing == HOLDS_NOTHING) {
            return NOTHING;
        }
        if (s.thing != HOLDS_PLACE || !Kinds.isUnder(s.kind, kind)) {
            return KIND;
        }
        return Kinds.worth(s.kind, s.steep, s.load);
    }

    public int item(int slot, int place) {
        if (!isSlot(slot)) {
            return BAD;
        }
        Slot s = slots[slot];
        if (s.thing == HOLDS_NOTHING) {
            return NOTHING;
        }
        if (s.thing != HOLDS_SHEET) {
            return KIND;
        }
        if (!s.sheet.hasPlace(place)) {
            return INDEX;
        }
        return s.sheet.isNumber(place) ? s.sheet.row[place] : KIND;
    }

    public int rest(int slot, int n) {
        if (!isSlot(slot)) {
            return BAD;
        }
        Slot s = slots[slot];
        if (s.thing == HOLDS_NOTHING) {
            return NOTHING;
        }
        if (s.thing != HOLDS_NUMBER) {
            return KIND;
        }
        return n == 0 ? NO : s.number % n;
    }

    // ---- rows, images

    public int tell(int v) {
        if (waits >= MOST_WAITING) {
            return FULL;
        }
        waiting[waits] = v;
        waits++;
        return waits;
    }

    public int check(int n) {
        int told = waits;
        waits = 0;
        if (!isWithin(n, 1, MOST_TICKS_TOLD)) {
            return BAD;
        }
        if (!imageKept) {
            return NO;
        }
        int right = rightAhead(told, n);
        return right == told && right == 2 * n ? 0 : 1 + right;
    }

    public int keep() {
        image.become(now);
        imageKept = true;
        return now.allLoad();
    }

    public int back() {
        if (!imageKept) {
            return NO;
        }
        now.become(image);
        return now.allLoad();
    }

    public int count(int what) {
        switch (what) {
            case 0:
                return now.allLoad();
            case 1:
                return now.slid;
            case 2:
                return now.danger;
            case 3:
                return now.hour;
            case 4:
                return now.fall;
            case 5:
                return now.trackCells;
            case 6:
                return now.texts;
            case 7:
                return waits;
            case 8:
                return tape.length;
            case 9:
                return now.z;
            default:
                return BAD;
        }
    }

    private int rightAhead(int told, int n) {
        thought.become(image);
        thought.brace();
        for (int tick = 0; tick < n; tick++) {
            int slides = thought.tick();
            int first = 2 * tick;
            if (first >= told || waiting[first] != slides) {
                return first;
            }
            if (first + 1 >= told || waiting[first + 1] != thought.allLoad()) {
                return first + 1;
            }
        }
        return 2 * n;
    }

    private static boolean isWithin(int v, int least, int most) {
        return v >= least && v <= most;
    }

    private static int heldWithin(int v, int least, int most) {
        return Math.max(least, Math.min(most, v));
    }

    private static boolean isCell(int cell) {
        return isWithin(cell, 0, CELLS - 1);
    }

    private static boolean isSheet(int sheet) {
        return isWithin(sheet, 0, SHEETS - 1);
    }

    private static boolean isSlot(int slot) {
        return isWithin(slot, 0, SLOTS - 1);
    }

    /** The CELL in a direction, by the order of those BESIDE; NONE where the mountain ends. */
    private static int neighbour(int cell, int direction) {
        int column = cell % COLUMNS;
        switch (direction) {
            case 0:
                return cell < CELLS - COLUMNS ? cell + COLUMNS : NONE;
            case 1:
                return column < COLUMNS - 1 ? cell + 1 : NONE;
            case 2:
                return cell >= COLUMNS ? cell - COLUMNS : NONE;
            default:
                return column > 0 ? cell - 1 : NONE;
        }
    }

    private static boolean isBeside(int cell, int other) {
        for (int direction = 0; direction < DIRECTIONS; direction++) {
            if (neighbour(cell, direction) == other) {
                return true;
            }
        }
        return false;
    }

    private static int commonDivisor(int a, int b) {
        int greater = a;
        int smaller = b;
        // Two ints need fewer than 50 divisions (Fibonacci's are the worst).
        for (int i = 0; i < 100 && smaller != 0; i++) {
            int left = greater % smaller;
            greater = smaller;
            smaller = left;
        }
        return greater;
    }

    /** What the KINDS make of a PLACE's plain numbers. */
    private static final class Kinds {
        private static final int PLACE = 0, BENEATH = 1, RIBBED = 2, TRAPPED = 3, SUNNED = 4, WOODED = 5;
        private static final int MANY = 6;
        private static final int[] OVER = {NONE, PLACE, PLACE, BENEATH, RIBBED, PLACE};

        private static boolean isKind(int kind) {
            return isWithin(kind, 0, MANY - 1);
        }

        private static boolean isUnder(int kind, int asked) {
            int one = kind;
            for (int i = 0; i < MANY && isKind(one); i++) {
                if (one == asked) {
                    return true;
                }
                one = OVER[one];
            }
            return false;
        }

        private static int risk(int kind, int plain, int above, int sun) {
            switch (kind) {
                case BENEATH:
                    return plain + above / 2;
                case TRAPPED:
                    return 2 * (plain + above / 2);
                case RIBBED:
                    return plain / 2;
                case SUNNED:
                    return plain / 2 + sun;
                case WOODED:
                    return plain / 3;
                default:
                    return plain;
            }
        }

        private static int hold(int kind, int plain, int sun) {
            switch (kind) {
                case RIBBED:
                    return plain + 5;
                case SUNNED:
                    return plain + 5 - sun;
                case WOODED:
                    return plain + 20;
                default:
                    return plain;
            }
        }

        private static int worth(int kind, int steep, int load) {
            switch (kind) {
                case BENEATH:
                    return steep + load;
                case TRAPPED:
                    return 2 * (steep + load);
                case RIBBED:
                    return MOST_STEEP - steep;
                case SUNNED:
                    return MOST_STEEP - steep + 9;
                case WOODED:
                    return load;
                default:
                    return steep;
            }
        }
    }

    /** All that an IMAGE keeps: PLACES, the day, the TRACK, the lot, and how many TEXTS count. */
    private static final class Mountain {
        private final Laws laws;
        private final int[] kinds = new int[CELLS];
        private final int[] steeps = new int[CELLS];
        private final int[] loads = new int[CELLS];
        private final int[] trackRow = new int[TRACK_CELLS];
        private final int[] risks = new int[CELLS];
        private final int[] plainHolds = new int[CELLS];
        private int trackCells;
        private int danger = 2;
        private int hour = 6;
        private int fall = 3;
        private int z = 1;
        private int slid;
        // TEXTS are only ever added behind those that an IMAGE counts, so their number is all that is to be kept.
        private int texts;

        private Mountain(Laws laws) {
            this.laws = laws;
        }

        private void become(Mountain other) {
            System.arraycopy(other.kinds, 0, kinds, 0, CELLS);
            System.arraycopy(other.steeps, 0, steeps, 0, CELLS);
            System.arraycopy(other.loads, 0, loads, 0, CELLS);
            System.arraycopy(other.trackRow, 0, trackRow, 0, TRACK_CELLS);
            trackCells = other.trackCells;
            danger = other.danger;
            hour = other.hour;
            fall = other.fall;
            z = other.z;
            slid = other.slid;
            texts = other.texts;
        }

        private int sun() {
            return Math.max(0, hour - 9);
        }

        private int allLoad() {
            int all = 0;
            for (int cell = 0; cell < CELLS; cell++) {
                all += loads[cell];
            }
            return all;
        }

        private int mostLoaded() {
            int most = 0;
            for (int cell = 1; cell < CELLS; cell++) {
                if (loads[cell] > loads[most]) {
                    most = cell;
                }
            }
            return most;
        }

        private int plainRisk(int cell) {
            int law = laws.lastOf(RISK_KEY, texts);
            if (law != NONE) {
                return heldWithin(laws.worth(law, steeps[cell], loads[cell], danger), 0, MOST_PLAIN_RISK);
            }
            return steeps[cell] < SLIDES_FROM ? 0 : (steeps[cell] - 29) * danger + loads[cell] / 10;
        }

        private int riskAbove(int cell) {
            int above = 0;
            for (int higher = cell + COLUMNS; higher < CELLS; higher += COLUMNS) {
                above = Math.max(above, plainRisk(higher));
            }
            return above;
        }

        private int risk(int cell) {
            return Kinds.risk(kinds[cell], plainRisk(cell), riskAbove(cell), sun());
        }

        /** Works out all RISKS at once, from the top down, so that each PLAIN RISK is worked out only once. */
        private void weighRisks() {
            int sun = sun();
            for (int column = 0; column < COLUMNS; column++) {
                int above = 0;
                for (int row = ROWS - 1; row >= 0; row--) {
                    int cell = row * COLUMNS + column;
                    int plain = plainRisk(cell);
                    risks[cell] = Kinds.risk(kinds[cell], plain, above, sun);
                    above = Math.max(above, plain);
                }
            }
        }

        private int plainHold(int cell) {
            int law = laws.lastOf(HOLD_KEY, texts);
            int hold = law == NONE ? 70 - steeps[cell] : laws.worth(law, steeps[cell], cell / COLUMNS, 0);
            return heldWithin(hold, 0, MOST_PLAIN_HOLD);
        }

        private int stepInto(int from, int to) {
            int up = to / COLUMNS > from / COLUMNS ? 1 : 0;
            int law = laws.lastOf(STEP_KEY, texts);
            int step = law == NONE ? 1 + steeps[to] / 10 + 2 * up : laws.worth(law, steeps[to], up, 0);
            return heldWithin(step, 0, MOST_STEP);
        }

        private int draw() {
            z = z * 1103515245 + 12345;
            return z >>> 8;
        }

        private void drawByLot() {
            for (int cell = 0; cell < CELLS; cell++) {
                kinds[cell] = draw() % 6;
                steeps[cell] = draw() % 50;
                loads[cell] = draw() % 40;
            }
        }

        private int tickOften(int n) {
            brace();
            int slides = 0;
            for (int i = 0; i < n; i++) {
                slides += tick();
            }
            return slides;
        }

        /** TICKS change nothing that plain HOLDS hang on, so these are worked out once ahead of them. */
        private void brace() {
            for (int cell = 0; cell < CELLS; cell++) {
                plainHolds[cell] = plainHold(cell);
            }
        }

        private int tick() {
            snow();
            drift();
            int slides = slide();
            slid += slides;
            hour = hour >= MOST_HOUR ? 0 : hour + 1;
            return slides;
        }

        private void snow() {
            int more = fall + draw() % 3;
            for (int cell = 0; cell < CELLS; cell++) {
                addLoad(cell, more);
            }
        }

        private void addLoad(int cell, int more) {
            loads[cell] = Math.min(loads[cell] + more, MOST_LOAD);
        }

        private void drift() {
            // From the last CELL on: what drifts into a CELL comes when that one's own drift has gone already.
            for (int cell = CELLS - 1; cell >= 0; cell--) {
                if (kinds[cell] != Kinds.WOODED && loads[cell] > 20) {
                    int goes = (loads[cell] - 20) / 10;
                    loads[cell] -= goes;
                    int next = neighbour(cell, 1);
                    if (next != NONE) {
                        addLoad(next, goes);
                    }
                }
            }
        }

        private int slide() {
            int slides = 0;
            int sun = sun();
            for (int row = ROWS - 1; row >= 0; row--) {
                for (int column = 0; column < COLUMNS; column++) {
                    int cell = row * COLUMNS + column;
                    if (steeps[cell] >= SLIDES_FROM && loads[cell] > Kinds.hold(kinds[cell], plainHolds[cell], sun)) {
                        slides++;
                        if (row > 0) {
                            loads[cell - COLUMNS] += loads[cell];
                        }
                        loads[cell] = 0;
                    }
                }
            }
            // Only behind all SLIDES: what slides further in the same TICK is not cut on its way.
            for (int cell = 0; cell < CELLS; cell++) {
                addLoad(cell, 0);
            }
            return slides;
        }

        private int trackRisk() {
            weighRisks();
            int together = 0;
            for (int i = 1; i < trackCells; i++) {
                together += risks[trackRow[i]];
            }
            return together;
        }

        private int trackBreath() {
            int together = 0;
            for (int i = 1; i < trackCells; i++) {
                together += stepInto(trackRow[i - 1], trackRow[i]);
            }
            return together;
        }

        private int trackTurns() {
            int turned = 0;
            for (int i = 2; i < trackCells; i++) {
                if (trackRow[i] - trackRow[i - 1] != trackRow[i - 1] - trackRow[i - 2]) {
                    turned++;
                }
            }
            return turned;
        }

        private int trackSteepest() {
            int most = 0;
            for (int i = 0; i < trackCells; i++) {
                most = Math.max(most, steeps[trackRow[i]]);
            }
            return most;
        }

        private int trackRiskiest() {
            weighRisks();
            int most = 0;
            for (int i = 0; i < trackCells; i++) {
                most = Math.max(most, risks[trackRow[i]]);
            }
            return most;
        }
    }

    /** Searches over all CELLS; its rows are used again by each search. */
    private static final class Ways {
        // Far above all RISKS together (2996 for each of 40 steps), times STEP_UNIT.
        private static final int FAR = 1 << 29;
        // A WAY has fewer steps than this, so that RISKS and steps go into one number, RISKS first.
        private static final int STEP_UNIT = 64;

        private final int[] costs = new int[CELLS];
        private final int[] before = new int[CELLS];

        private void startAt(int cell, int cost) {
            for (int i = 0; i < CELLS; i++) {
                costs[i] = FAR;
            }
            costs[cell] = cost;
        }

        /** Finds what THE WAY to a CELL costs from each CELL, so that a WAY can be walked step by step. */
        private void findTo(Mountain m, int to) {
            m.weighRisks();
            startAt(to, 0);
            boolean better = true;
            for (int round = 0; round < CELLS && better; round++) {
                better = false;
                for (int cell = 0; cell < CELLS; cell++) {
                    int cost = costBy(m, cell, bestDirection(m, cell));
                    if (cost < costs[cell]) {
                        costs[cell] = cost;
                        better = true;
                    }
                }
            }
        }

        private int costBy(Mountain m, int cell, int direction) {
            int next = neighbour(cell, direction);
            return next == NONE ? FAR : costs[next] + m.risks[next] * STEP_UNIT + 1;
        }

        private int bestDirection(Mountain m, int cell) {
            int best = 0;
            int least = costBy(m, cell, 0);
            for (int direction = 1; direction < DIRECTIONS; direction++) {
                int cost = costBy(m, cell, direction);
                if (cost < least) {
                    least = cost;
                    best = direction;
                }
            }
            return best;
        }

        private int risksFrom(int from) {
            return costs[from] / STEP_UNIT;
        }

        private int stepsFrom(int from) {
            return costs[from] % STEP_UNIT;
        }

        private int breathFrom(Mountain m, int from) {
            int steps = stepsFrom(from);
            int together = 0;
            int cell = from;
            for (int i = 0; i < steps; i++) {
                int next = neighbour(cell, bestDirection(m, cell));
                if (next == NONE) {
                    return together;
                }
                together += m.stepInto(cell, next);
                cell = next;
            }
            return together;
        }

        private int cellFrom(Mountain m, int from, int place) {
            if (place > stepsFrom(from)) {
                return NONE;
            }
            int cell = from;
            for (int i = 0; i < place && cell != NONE; i++) {
                cell = neighbour(cell, bestDirection(m, cell));
            }
            return cell;
        }

        private int leastWithin(Mountain m, int from, int to, int n) {
            m.weighRisks();
            startAt(from, 0);
            boolean better = true;
            for (int step = 0; step < n && better; step++) {
                // A step goes on from where the one ahead of it ended, never from within itself.
                System.arraycopy(costs, 0, before, 0, CELLS);
                better = false;
                for (int cell = 0; cell < CELLS; cell++) {
                    int cost = leastBeside(cell) + m.risks[cell];
                    if (cost < costs[cell]) {
                        costs[cell] = cost;
                        better = true;
                    }
                }
            }
            return costs[to] < FAR ? costs[to] : NONE;
        }

        private int leastBeside(int cell) {
            int least = FAR;
            for (int direction = 0; direction < DIRECTIONS; direction++) {
                int next = neighbour(cell, direction);
                if (next != NONE) {
                    least = Math.min(least, before[next]);
                }
            }
            return least;
        }

        private int leastSteep(Mountain m, int from, int to) {
            startAt(from, m.steeps[from]);
            boolean better = true;
            for (int round = 0; round < CELLS && better; round++) {
                System.arraycopy(costs, 0, before, 0, CELLS);
                better = false;
                for (int cell = 0; cell < CELLS; cell++) {
                    int steep = Math.max(leastBeside(cell), m.steeps[cell]);
                    if (steep < costs[cell]) {
                        costs[cell] = steep;
                        better = true;
                    }
                }
            }
            return costs[to];
        }

        private int comeTo(Mountain m, int from, int r) {
            m.weighRisks();
            startAt(from, 0);
            int many = 1;
            boolean more = true;
            for (int round = 0; round < CELLS && more; round++) {
                System.arraycopy(costs, 0, before, 0, CELLS);
                more = false;
                for (int cell = 0; cell < CELLS; cell++) {
                    if (costs[cell] == FAR && m.risks[cell] <= r && leastBeside(cell) < FAR) {
                        costs[cell] = 0;
                        many++;
                        more = true;
                    }
                }
            }
            return many;
        }
    }

    /** A TEXT that was read: its pieces and signs, each sign behind what it joins. */
    private static final class Law {
        private int key;
        private int pieces;
        private int length;
        // A NUMBER stands as it is; a NAME or a sign as its byte, below 0.
        private final int[] codes = new int[TAPE_BYTES];

        private void begin() {
            pieces = 0;
            length = 0;
        }

        private void add(int code) {
            if (length < TAPE_BYTES) {
                codes[length] = code;
                length++;
            }
        }

        private void addPiece(int code) {
            add(code);
            pieces++;
        }

        private void become(Law other) {
            key = other.key;
            pieces = other.pieces;
            length = other.length;
            System.arraycopy(other.codes, 0, codes, 0, TAPE_BYTES);
        }
    }

    /** All TEXTS, and what they give. */
    private static final class Laws {
        private final Law[] rows = new Law[MOST_TEXTS];
        private final int[] stack = new int[TAPE_BYTES];

        private Laws() {
            for (int i = 0; i < MOST_TEXTS; i++) {
                rows[i] = new Law();
            }
        }

        private int lastOf(int key, int texts) {
            for (int i = Math.min(texts, MOST_TEXTS) - 1; i >= 0; i--) {
                if (rows[i].key == key) {
                    return i;
                }
            }
            return NONE;
        }

        /** What a TEXT gives; second stands for that NAME of its KEY that is neither s nor d. */
        private int worth(int number, int steep, int second, int danger) {
            Law law = rows[number];
            // Each code puts one number on top at most, so that the stack has room for all codes of a TEXT.
            int top = 0;
            for (int i = 0; i < law.length; i++) {
                int code = law.codes[i];
                if (code == -'!' && top > 0) {
                    stack[top - 1] = stack[top - 1] == 0 ? 1 : 0;
                } else if (isPiece(code)) {
                    stack[top] = pieceWorth(code, steep, second, danger);
                    top++;
                } else if (top > 1) {
                    top--;
                    stack[top - 1] = joined(-code, stack[top - 1], stack[top]);
                }
            }
            return stack[0];
        }

        private static boolean isPiece(int code) {
            return code >= 0 || isWithin(-code, 'a', 'z');
        }

        private static int pieceWorth(int code, int steep, int second, int danger) {
            if (code >= 0) {
                return code;
            }
            if (code == -'s') {
                return steep;
            }
            return code == -'d' ? danger : second;
        }

        private static int joined(int sign, int a, int b) {
            switch (sign) {
                case '|':
                    return a != 0 || b != 0 ? 1 : 0;
                case '&':
                    return a != 0 && b != 0 ? 1 : 0;
                case '<':
                    return a < b ? 1 : 0;
                case '=':
                    return a == b ? 1 : 0;
                case '>':
                    return a > b ? 1 : 0;
                case '+':
                    return a + b;
                case '-':
                    return a - b;
                case '*':
                    return a * b;
                default:
                    return b == 0 ? 0 : a / b;
            }
        }
    }

    /** THE TAPE: bytes that came and were not read yet. */
    private static final class Tape {
        private final int[] bytes = new int[TAPE_BYTES];
        private int length;

        private boolean hasRoomFor(int many) {
            return length + many <= TAPE_BYTES;
        }

        private void takeInt(int v) {
            for (int shift = 24; shift >= 0 && length < TAPE_BYTES; shift -= 8) {
                bytes[length] = v >>> shift & 255;
                length++;
            }
        }

        private int byteAt(int place) {
            return place < length ? bytes[place] : NONE;
        }

        private boolean isLetterAt(int place) {
            int b = byteAt(place);
            return b >= 'a' && b <= 'z';
        }

        private boolean isDigitAt(int place) {
            int b = byteAt(place);
            return b >= '0' && b <= '9';
        }

        /** The place behind the word that begins at a place; that place itself, if none does. */
        private int wordEnd(int start) {
            boolean digits = isDigitAt(start);
            int end = start;
            while (end < length && (digits ? isDigitAt(end) : isLetterAt(end))) {
                end++;
            }
            return end;
        }
    }

    /** Reads THE TAPE into a Law; it stops at the first word or sign with which no TEXT goes on. */
    private static final class Reader {
        private static final int LOOSEST = 0, TESTS = 2, PIECES = 5;
        private static final int MOST_OPEN = 8, MOST_DIGITS = 4;

        private final Tape tape;
        private final Law law = new Law();
        private int at;
        private int fault;
        private int keyEnd;

        private Reader(Tape tape) {
            this.tape = tape;
        }

        private int faultOfTape() {
            law.begin();
            at = 0;
            fault = NONE;
            readKey();
            readLevel(LOOSEST, 0, 0);
            if (fault == NONE && nextByte() != NONE) {
                fault = at;
            }
            return fault;
        }

        /** The byte that the next word or sign begins with; NONE at the end. */
        private int nextByte() {
            while (at < tape.length && tape.bytes[at] == ' ') {
                at++;
            }
            return tape.byteAt(at);
        }

        private void readKey() {
            nextByte();
            keyEnd = tape.wordEnd(at);
            if (isWord("risk")) {
                law.key = RISK_KEY;
            } else if (isWord("hold")) {
                law.key = HOLD_KEY;
            } else if (isWord("step")) {
                law.key = STEP_KEY;
            } else {
                fault = at;
                return;
            }
            at = keyEnd;
        }

        private boolean isWord(String word) {
            if (keyEnd - at != word.length()) {
                return false;
            }
            for (int i = 0; i < word.length(); i++) {
                if (tape.byteAt(at + i) != word.charAt(i)) {
                    return false;
                }
            }
            return true;
        }

        /** Reads what signs of a level and of tighter ones join; a level's sign is put behind what it joins. */
        private void readLevel(int level, int parens, int nots) {
            if (level >= PIECES) {
                readPiece(parens, nots);
                return;
            }
            readLevel(level + 1, parens, nots);
            int most = level == TESTS ? 1 : TAPE_BYTES;
            for (int i = 0; i < most && fault == NONE && levelOf(nextByte()) == level; i++) {
                int sign = nextByte();
                at++;
                readLevel(level + 1, parens, nots);
                law.add(-sign);
            }
        }

        private static int levelOf(int sign) {
            switch (sign) {
                case '|':
                    return LOOSEST;
                case '&':
                    return 1;
                case '<':
                case '=':
                case '>':
                    return TESTS;
                case '+':
                case '-':
                    return 3;
                case '*':
                case '/':
                    return 4;
                default:
                    return NONE;
            }
        }

        private void readPiece(int parens, int nots) {
            if (fault != NONE) {
                return;
            }
            int sign = nextByte();
            if (sign == '(' && parens < MOST_OPEN) {
                at++;
                readLevel(LOOSEST, parens + 1, nots);
                readClosing();
            } else if (sign == '!' && nots < MOST_OPEN) {
                at++;
                readPiece(parens, nots + 1);
                law.add(-'!');
            } else if (tape.isDigitAt(at)) {
                readNumber();
            } else {
                readName(sign);
            }
        }

        private void readClosing() {
            if (fault != NONE) {
                return;
            }
            if (nextByte() == ')') {
                at++;
            } else {
                fault = at;
            }
        }

        private void readNumber() {
            int end = tape.wordEnd(at);
            // Only a KEY can stand right ahead of a piece without a sign between them.
            if (at == keyEnd || end - at > MOST_DIGITS) {
                fault = at;
                return;
            }
            int number = 0;
            for (int i = at; i < end; i++) {
                number = number * 10 + tape.byteAt(i) - '0';
            }
            law.addPiece(number);
            at = end;
        }

        private void readName(int letter) {
            if (!isName(letter) || tape.wordEnd(at) != at + 1) {
                fault = at;
                return;
            }
            law.addPiece(-letter);
            at++;
        }

        private boolean isName(int letter) {
            switch (letter) {
                case 's':
                    return true;
                case 'l':
                case 'd':
                    return law.key == RISK_KEY;
                case 'r':
                    return law.key == HOLD_KEY;
                case 'u':
                    return law.key == STEP_KEY;
                default:
                    return false;
            }
        }
    }

    /** A row of shorts or floats; a float that is NO NUMBER stands as NONE, which no number of either sort is. */
    private static final class Sheet {
        private int sort = MISSING;
        private int places;
        private final int[] row = new int[SHEET_PLACES];

        private void renew(int newSort, int newPlaces) {
            sort = newSort;
            places = newPlaces;
            for (int i = 0; i < SHEET_PLACES; i++) {
                row[i] = 0;
            }
        }

        private void become(Sheet other) {
            sort = other.sort;
            places = other.places;
            System.arraycopy(other.row, 0, row, 0, SHEET_PLACES);
        }

        private boolean hasPlace(int place) {
            return isWithin(place, 0, places - 1);
        }

        /** Whether so many places from one on are there (none at all may also be behind the last one). */
        private boolean hasPlaces(int first, int many) {
            return many >= 0 && isWithin(first, 0, places) && many <= places - first;
        }

        private boolean isNumber(int place) {
            return row[place] != NONE;
        }
    }

    /** A SLOT; which of its fields count hangs on the thing that it holds. */
    private static final class Slot {
        private int thing = HOLDS_NOTHING;
        private int kind;
        private int steep;
        private int load;
        private int number;
        private final Sheet sheet = new Sheet();
    }
}
