/** Edges of Terms 5 and of the promises 28 to 36 (P28 to P36): MISSING, none, most, FINDINGS and their order. */
public final class SheetsEdgesTest {
    private static final Due DUE = new Due("SheetsEdgesTest");
    private static final int[] NO_SHEETS = {-1, 4, 5, Due.LOWEST, Due.HIGHEST, Due.NONE};
    private static final int[] NO_SLOTS = {-1, 5, 6, Due.LOWEST, Due.HIGHEST, Due.NONE};

    public static void main(String[] args) {
        p28Bad();
        p28Size();
        p28BadAheadOfSize();
        p28Ends();
        p28MissingWithAnyN();
        p28AllAreZero();
        p29Bad();
        p29Nothing();
        p29Index();
        p29Kind();
        p29BadFloats();
        p29Order();
        p29Lowest16Bits();
        p29FloatEnds();
        p30Bad();
        p30Nothing();
        p30BadAheadOfNothing();
        p30Held();
        p30NoNumberStays();
        p30BeyondTheSheet();
        p30BeyondTheRow();
        p30Otherwise();
        p31Bad();
        p31Nothing();
        p31None();
        p31NumbersAlone();
        p31Ends();
        p32Bad();
        p32Nothing();
        p32Kind();
        p32Index();
        p32Order();
        p32Zero();
        p32AsTheyWere();
        p32Most();
        p33Bad();
        p33Nothing();
        p33AnyK();
        p33BadAheadOfNothing();
        p33Held();
        p33AsItWasThen();
        p34Bad();
        p34Nothing();
        p34Kind();
        p34BadAheadOfNothing();
        p34Ends();
        p35Bad();
        p35Nothing();
        p35KindOfSlot();
        p35Index();
        p35NoNumber();
        p35Order();
        p36Bad();
        p36Nothing();
        p36Kind();
        p36No();
        p36Order();
        p36Signs();
        p36Wrap();
        DUE.end();
    }

    private static int placeOf(WhiteSlope x, int sheet, int place) {
        x.lay(4, 2, sheet);
        return x.item(4, place);
    }

    private static void row(WhiteSlope x, int sheet, String which, int... want) {
        for (int i = 0; i < want.length; i++) {
            DUE.is(which + ", place " + i, placeOf(x, sheet, i), want[i]);
        }
        DUE.is(which + ", no more places", placeOf(x, sheet, want.length), Due.INDEX);
    }

    /** A SHEET of these numbers. */
    private static WhiteSlope with(int sort, int... numbers) {
        WhiteSlope x = new WhiteSlope();
        x.sheet(0, sort, numbers.length);
        for (int i = 0; i < numbers.length; i++) {
            x.mark(0, i, numbers[i]);
        }
        return x;
    }

    // Promise 28: "BAD: sheet, sort, n above 24".
    private static void p28Bad() {
        for (int sheet : NO_SHEETS) {
            Twins.refused(DUE, "P28 sheet: BAD sheet " + sheet, Due.BAD, x -> x.sheet(sheet, 0, 3));
            Twins.refused(DUE, "P28 sheet: BAD sheet " + sheet + ", to be MISSING", Due.BAD, x -> x.sheet(sheet, -1, 3));
        }
        for (int sort : new int[] {-2, 2, Due.LOWEST, Due.HIGHEST}) {
            Twins.refused(DUE, "P28 sheet: BAD sort " + sort, Due.BAD, x -> x.sheet(0, sort, 3));
        }
        for (int n : new int[] {25, 26, Due.HIGHEST}) {
            Twins.refused(DUE, "P28 sheet: BAD n " + n + " of shorts", Due.BAD, x -> x.sheet(0, 0, n));
            Twins.refused(DUE, "P28 sheet: BAD n " + n + " of floats", Due.BAD, x -> x.sheet(1, 1, n));
        }
    }

    // Promise 28, Terms 5: "SIZE: a number of places is below 0".
    private static void p28Size() {
        for (int n : new int[] {-1, -24, Due.LOWEST, Due.NONE}) {
            Twins.refused(DUE, "P28 sheet: SIZE " + n + " of shorts", Due.SIZE, x -> x.sheet(0, 0, n));
            Twins.refused(DUE, "P28 sheet: SIZE " + n + " of floats", Due.SIZE, x -> x.sheet(3, 1, n));
        }
    }

    // Promise 28: BAD stands ahead of SIZE.
    private static void p28BadAheadOfSize() {
        WhiteSlope x = new WhiteSlope();
        DUE.is("P28 sheet: BAD sheet goes ahead of SIZE", x.sheet(4, 0, -1), Due.BAD);
        DUE.is("P28 sheet: BAD sort goes ahead of SIZE", x.sheet(0, 2, -1), Due.BAD);
        DUE.is("P28 sheet: BAD sort -2 goes ahead of SIZE", x.sheet(0, -2, -1), Due.BAD);
    }

    // Terms 5: "with 0 to 24 places".
    private static void p28Ends() {
        for (int sort = 0; sort < 2; sort++) {
            for (int sheet : new int[] {0, 3}) {
                WhiteSlope x = new WhiteSlope();
                DUE.is("P28 sheet: 0 places of sort " + sort, x.sheet(sheet, sort, 0), 0);
                DUE.is("P28 sheet: it is not MISSING", x.reads(sheet), Due.NONE);
                DUE.is("P28 sheet: it has no place 0", x.mark(sheet, 0, 1), Due.INDEX);
                DUE.is("P28 sheet: 24 places of sort " + sort, x.sheet(sheet, sort, 24), 24);
                DUE.is("P28 sheet: it has a place 23", x.mark(sheet, 23, 1), 1);
                DUE.is("P28 sheet: it has no place 24", x.mark(sheet, 24, 1), Due.INDEX);
            }
        }
    }

    // Promise 28: "(sort -1: MISSING, n any): n (sort -1: 0)".
    private static void p28MissingWithAnyN() {
        for (int n : new int[] {0, 24, 25, -1, Due.LOWEST, Due.HIGHEST}) {
            WhiteSlope x = with(0, 5, 6);
            DUE.is("P28 sheet: to be MISSING, n " + n, x.sheet(0, -1, n), 0);
            DUE.is("P28 sheet: it is MISSING, n " + n, x.mark(0, 0, 1), Due.NOTHING);
            DUE.is("P28 sheet: MISSING again, n " + n, x.sheet(0, -1, n), 0);
        }
    }

    // Promise 28: "all 0", behind a SHEET that had other numbers.
    private static void p28AllAreZero() {
        for (int sort = 0; sort < 2; sort++) {
            WhiteSlope x = with(1, 7, Due.NONE, 9);
            x.sheet(0, sort, 4);
            row(x, 0, "P28 sheet: all 0 then", 0, 0, 0, 0);
            x = with(1, 7, Due.NONE, 9);
            x.sheet(0, -1, 0);
            x.sheet(0, sort, 3);
            row(x, 0, "P28 sheet: all 0 behind MISSING", 0, 0, 0);
        }
    }

    // Promise 29: "BAD: sheet".
    private static void p29Bad() {
        for (int sheet : NO_SHEETS) {
            Twins.refused(DUE, "P29 mark: BAD sheet " + sheet, Due.BAD, x -> x.mark(sheet, 0, 1));
        }
    }

    // Promise 29: "NOTHING".
    private static void p29Nothing() {
        Twins.refused(DUE, "P29 mark: NOTHING", Due.NOTHING, x -> x.mark(3, 0, 1));
    }

    // Promise 29: "INDEX".
    private static void p29Index() {
        for (int place : new int[] {-1, 3, 4, 24, Due.LOWEST, Due.HIGHEST}) {
            Twins.refused(DUE, "P29 mark: INDEX " + place + " of 3", Due.INDEX, x -> x.mark(0, place, 1));
        }
        Twins.refused(DUE, "P29 mark: INDEX 4 of 4", Due.INDEX, x -> x.mark(1, 4, 1));
        Twins.refused(DUE, "P29 mark: INDEX 0 of none", Due.INDEX, x -> x.mark(2, 0, 1));
    }

    // Promise 29: "KIND: NONE in a row of shorts".
    private static void p29Kind() {
        Twins.refused(DUE, "P29 mark: KIND", Due.KIND, x -> x.mark(0, 0, Due.NONE));
        WhiteSlope x = with(0, 0, 0);
        DUE.is("P29 mark: next to NONE is a short", x.mark(0, 0, Due.NONE - 1), 1);
        DUE.is("P29 mark: BAD's number is a short", x.mark(0, 1, Due.BAD), 1);
        row(x, 0, "P29 mark: their lowest bits", (short) (Due.NONE - 1), (short) Due.BAD);
    }

    // Promise 29: "BAD: v of floats": "of floats v, -99999 .. 99999".
    private static void p29BadFloats() {
        for (int v : new int[] {100000, -100000, Due.LOWEST, Due.HIGHEST, Due.NONE + 1, Due.NONE - 1, Due.BAD, Due.KIND}) {
            Twins.refused(DUE, "P29 mark: BAD float " + v, Due.BAD, x -> x.mark(1, 0, v));
            Twins.refused(DUE, "P29 mark: BAD float " + v + " onto NO NUMBER", Due.BAD, x -> x.mark(1, 1, v));
        }
    }

    // Promise 29: BAD, NOTHING, INDEX, KIND, BAD, of several the first.
    private static void p29Order() {
        WhiteSlope x = with(0, 1);
        x.sheet(1, 1, 1);
        DUE.is("P29 mark: BAD sheet goes ahead of all", x.mark(4, -1, Due.NONE), Due.BAD);
        DUE.is("P29 mark: NOTHING goes ahead of INDEX and BAD", x.mark(3, -1, 100000), Due.NOTHING);
        DUE.is("P29 mark: NOTHING goes ahead of NONE", x.mark(3, 0, Due.NONE), Due.NOTHING);
        DUE.is("P29 mark: INDEX goes ahead of KIND", x.mark(0, 1, Due.NONE), Due.INDEX);
        DUE.is("P29 mark: INDEX goes ahead of BAD floats", x.mark(1, 1, 100000), Due.INDEX);
    }

    // Promise 29: "of shorts its lowest 16 bits".
    private static void p29Lowest16Bits() {
        int[][] shorts = {{32767, 32767}, {32768, -32768}, {65535, -1}, {65536, 0}, {65537, 1}, {-32768, -32768},
            {-32769, 32767}, {Due.HIGHEST, -1}, {Due.LOWEST, 0}, {100000, -31072}};
        for (int[] s : shorts) {
            WhiteSlope x = with(0, 0);
            DUE.is("P29 mark: short " + s[0], x.mark(0, 0, s[0]), 1);
            DUE.is("P29 mark: lowest 16 bits of " + s[0], placeOf(x, 0, 0), s[1]);
        }
    }

    // Promise 29: "of floats v, -99999 .. 99999; NONE: NO NUMBER".
    private static void p29FloatEnds() {
        WhiteSlope x = with(1, 0, 0, 0, 0);
        DUE.is("P29 mark: the greatest float", x.mark(0, 0, 99999), 1);
        DUE.is("P29 mark: the least float", x.mark(0, 1, -99999), 1);
        DUE.is("P29 mark: NO NUMBER", x.mark(0, 2, Due.NONE), 1);
        DUE.is("P29 mark: a float has more than 16 bits", x.mark(0, 3, 65536), 1);
        row(x, 0, "P29 mark: floats", 99999, -99999, Due.KIND, 65536);
        x.mark(0, 2, 8);
        DUE.is("P29 mark: NO NUMBER becomes one", placeOf(x, 0, 2), 8);
    }

    // Promise 30: "BAD".
    private static void p30Bad() {
        for (int sheet : NO_SHEETS) {
            Twins.refused(DUE, "P30 pour: BAD sheet " + sheet, Due.BAD, x -> x.pour(sheet, 0));
        }
        for (int row : new int[] {-1, 5, 6, Due.LOWEST, Due.HIGHEST}) {
            Twins.refused(DUE, "P30 pour: BAD row " + row, Due.BAD, x -> x.pour(0, row));
        }
    }

    // Promise 30: "NOTHING".
    private static void p30Nothing() {
        Twins.refused(DUE, "P30 pour: NOTHING", Due.NOTHING, x -> x.pour(3, 4));
    }

    // Promise 30: BAD stands ahead of NOTHING.
    private static void p30BadAheadOfNothing() {
        DUE.is("P30 pour: BAD row goes ahead of NOTHING", new WhiteSlope().pour(0, 5), Due.BAD);
        DUE.is("P30 pour: BAD row -1 goes ahead of NOTHING", new WhiteSlope().pour(0, -1), Due.BAD);
    }

    // Promise 30: "each held within 0 .. 999".
    private static void p30Held() {
        int[][] numbers = {{-1, 0}, {0, 0}, {1, 1}, {998, 998}, {999, 999}, {1000, 999}};
        for (int sort = 0; sort < 2; sort++) {
            WhiteSlope x = with(sort, -1, 0, 1, 998, 999, 1000);
            DUE.is("P30 pour: sort " + sort, x.pour(0, 0), 4);
            for (int i = 0; i < 6; i++) {
                DUE.is("P30 pour: " + numbers[i][0] + " is held", x.told(i, 2), numbers[i][1]);
            }
        }
        WhiteSlope x = with(0, -32768, 32767);
        x.set(0, 1, 5);
        DUE.is("P30 pour: the ends of shorts", x.pour(0, 0), 2);
        DUE.is("P30 pour: the least short", x.told(0, 2), 0);
        DUE.is("P30 pour: the greatest short", x.told(1, 2), 999);
        x = with(1, -99999, 99999);
        x.set(0, 1, 5);
        DUE.is("P30 pour: the ends of floats", x.pour(0, 0), 2);
        DUE.is("P30 pour: the least float", x.told(0, 2), 0);
        DUE.is("P30 pour: the greatest float", x.told(1, 2), 999);
    }

    // Promise 30: "NO NUMBER ..: they stay".
    private static void p30NoNumberStays() {
        WhiteSlope x = with(1, Due.NONE, 5, Due.NONE);
        x.set(24, 1, 71);
        x.set(26, 1, 73);
        DUE.is("P30 pour: NO NUMBER is not otherwise", x.pour(0, 4), 1);
        DUE.is("P30 pour: the first stays", x.told(24, 2), 71);
        DUE.is("P30 pour: the second is poured", x.told(25, 2), 5);
        DUE.is("P30 pour: the third stays", x.told(26, 2), 73);
    }

    // Promise 30: "beyond the SHEET: they stay".
    private static void p30BeyondTheSheet() {
        for (int n = 0; n <= 6; n++) {
            WhiteSlope x = new WhiteSlope();
            for (int i = 0; i < 6; i++) {
                x.set(24 + i, 1, 9);
            }
            x.sheet(0, 0, n);
            DUE.is("P30 pour: a SHEET of " + n, x.pour(0, 4), n);
            DUE.is("P30 pour: beyond " + n + " they stay", x.count(0), 9 * (6 - n));
        }
    }

    // Promise 30: places beyond the ROW's six are not poured, nor into the next ROW.
    private static void p30BeyondTheRow() {
        for (int row = 0; row < 5; row++) {
            WhiteSlope x = new WhiteSlope();
            x.sheet(0, 1, 24);
            for (int i = 0; i < 24; i++) {
                x.mark(0, i, i + 1);
            }
            DUE.is("P30 pour: 24 places into ROW " + row, x.pour(0, row), 6);
            DUE.is("P30 pour: six are all that came", x.count(0), 21);
            DUE.is("P30 pour: the first", x.told(row * 6, 2), 1);
            DUE.is("P30 pour: the last", x.told(row * 6 + 5, 2), 6);
        }
    }

    // Promise 30: "how many are otherwise then": none, if they were so already, or are held so.
    private static void p30Otherwise() {
        WhiteSlope x = with(1, 12, -5, 1500);
        x.set(0, 1, 12);
        x.set(2, 1, 999);
        DUE.is("P30 pour: none is otherwise", x.pour(0, 0), 0);
        x.set(1, 1, 1);
        DUE.is("P30 pour: one is", x.pour(0, 0), 1);
    }

    // Promise 31: "BAD".
    private static void p31Bad() {
        for (int sheet : NO_SHEETS) {
            Twins.refused(DUE, "P31 reads: BAD sheet " + sheet, Due.BAD, x -> x.reads(sheet));
        }
    }

    // Promise 31: "NOTHING".
    private static void p31Nothing() {
        Twins.refused(DUE, "P31 reads: NOTHING", Due.NOTHING, x -> x.reads(3));
    }

    // Promise 31: "NONE: there is none".
    private static void p31None() {
        Twins.refused(DUE, "P31 reads: NONE, no places", Due.NONE, x -> x.reads(2));
        DUE.is("P31 reads: NONE, all as due", with(0, 0, 0, 0).reads(0), Due.NONE);
        DUE.is("P31 reads: NONE, 24 as due", with(1, new int[24]).reads(0), Due.NONE);
        DUE.is("P31 reads: NONE, no numbers at all", with(1, Due.NONE, Due.NONE).reads(0), Due.NONE);
    }

    // Promise 31: "(of numbers alone)".
    private static void p31NumbersAlone() {
        DUE.is("P31 reads: NO NUMBER is passed by", with(1, Due.NONE, Due.NONE, 3).reads(0), 2);
        DUE.is("P31 reads: also behind a right one", with(1, 0, Due.NONE, 3).reads(0), 2);
    }

    // Promise 31: the first and the last place; one off on each side.
    private static void p31Ends() {
        int[] numbers = new int[24];
        for (int off = -1; off <= 1; off += 2) {
            WhiteSlope x = with(0, numbers);
            x.place(0, 0, 40, 0);
            x.place(23, 0, 50, 0);
            x.mark(0, 0, 22 + off);
            x.mark(0, 23, 42 + off);
            DUE.is("P31 reads: the first place, off by " + off, x.reads(0), 0);
            x.mark(0, 0, 22);
            DUE.is("P31 reads: the last place, off by " + off, x.reads(0), 23);
            x.mark(0, 23, 42);
            DUE.is("P31 reads: none is off", x.reads(0), Due.NONE);
            x.place(24, 0, 50, 0);
            DUE.is("P31 reads: CELLS beyond the SHEET do not count", x.reads(0), Due.NONE);
        }
    }

    // Promise 32: "BAD".
    private static void p32Bad() {
        for (int sheet : NO_SHEETS) {
            Twins.refused(DUE, "P32 copy: BAD from " + sheet, Due.BAD, x -> x.copy(sheet, 0, 1, 0, 1));
            Twins.refused(DUE, "P32 copy: BAD to " + sheet, Due.BAD, x -> x.copy(1, 0, sheet, 0, 1));
        }
    }

    // Promise 32: "NOTHING".
    private static void p32Nothing() {
        Twins.refused(DUE, "P32 copy: NOTHING, from", Due.NOTHING, x -> x.copy(3, 0, 0, 0, 1));
        Twins.refused(DUE, "P32 copy: NOTHING, to", Due.NOTHING, x -> x.copy(0, 0, 3, 0, 1));
        Twins.refused(DUE, "P32 copy: NOTHING, none of both", Due.NOTHING, x -> x.copy(3, 0, 3, 0, 0));
    }

    // Promise 32: "KIND: they are not of one sort".
    private static void p32Kind() {
        Twins.refused(DUE, "P32 copy: KIND, shorts to floats", Due.KIND, x -> x.copy(0, 0, 1, 0, 1));
        Twins.refused(DUE, "P32 copy: KIND, floats to shorts", Due.KIND, x -> x.copy(1, 0, 0, 0, 1));
        Twins.refused(DUE, "P32 copy: KIND, no place at all", Due.KIND, x -> x.copy(0, 0, 2, 0, 0));
    }

    // Promise 32: "INDEX (many below 0, too ..".
    private static void p32Index() {
        // SHEET 1 has four places; SHEET 3 is made with two.
        int[][] bad = {{-1, 0, 1}, {0, -1, 1}, {4, 0, 1}, {0, 2, 1}, {3, 0, 2}, {0, 1, 2}, {0, 0, 3}, {0, 0, 5},
            {0, 0, -1}, {1, 1, -1}, {4, 2, -1}, {2, 1, -1}, {0, 0, Due.LOWEST}, {0, 0, Due.HIGHEST}, {1, 1, Due.HIGHEST},
            {Due.HIGHEST, 0, 1}, {0, Due.HIGHEST, 1}, {Due.LOWEST, 0, 1}, {0, Due.LOWEST, 1},
            {Due.HIGHEST, 0, Due.HIGHEST}, {0, Due.HIGHEST, Due.HIGHEST}, {Due.LOWEST, 0, Due.LOWEST}};
        for (int[] b : bad) {
            Twins.refused(DUE, "P32 copy: INDEX " + b[0] + ", " + b[1] + ", " + b[2], Due.INDEX, x -> x.sheet(3, 1, 2),
                x -> x.copy(1, b[0], 3, b[1], b[2]));
        }
        Twins.refused(DUE, "P32 copy: INDEX in one SHEET", Due.INDEX, x -> x.copy(0, 1, 0, 0, 3));
        Twins.refused(DUE, "P32 copy: INDEX in one SHEET, there", Due.INDEX, x -> x.copy(0, 0, 0, 1, 3));
        Twins.refused(DUE, "P32 copy: INDEX of no places", Due.INDEX, x -> x.copy(2, 0, 2, 0, 1));
    }

    // Promise 32: BAD, NOTHING, KIND, INDEX, of several the first.
    private static void p32Order() {
        WhiteSlope x = with(0, 1);
        x.sheet(1, 1, 1);
        DUE.is("P32 copy: BAD to goes ahead of NOTHING", x.copy(3, 0, 4, 0, -1), Due.BAD);
        DUE.is("P32 copy: BAD from goes ahead of NOTHING", x.copy(-1, 0, 3, 0, -1), Due.BAD);
        DUE.is("P32 copy: NOTHING goes ahead of INDEX, from", x.copy(3, -1, 0, 0, 1), Due.NOTHING);
        DUE.is("P32 copy: NOTHING goes ahead of INDEX, to", x.copy(0, -1, 3, 0, 1), Due.NOTHING);
        DUE.is("P32 copy: KIND goes ahead of INDEX", x.copy(0, -1, 1, 9, -1), Due.KIND);
    }

    // Promise 32: "many 0: not at the place behind the last one".
    private static void p32Zero() {
        WhiteSlope x = with(0, 4, 5);
        x.sheet(1, 0, 3);
        x.sheet(2, 0, 0);
        DUE.is("P32 copy: 0 at the first places", x.copy(0, 0, 1, 0, 0), 0);
        DUE.is("P32 copy: 0 at the last places", x.copy(0, 1, 1, 2, 0), 0);
        DUE.is("P32 copy: 0 behind the last place, from", x.copy(0, 2, 1, 0, 0), 0);
        DUE.is("P32 copy: 0 behind the last place, to", x.copy(0, 0, 1, 3, 0), 0);
        DUE.is("P32 copy: 0 behind both", x.copy(0, 2, 1, 3, 0), 0);
        DUE.is("P32 copy: 0 of no places", x.copy(2, 0, 2, 0, 0), 0);
        DUE.is("P32 copy: 0 one further, from", x.copy(0, 3, 1, 0, 0), Due.INDEX);
        DUE.is("P32 copy: 0 one further, to", x.copy(0, 0, 1, 4, 0), Due.INDEX);
        DUE.is("P32 copy: 0 one further of no places", x.copy(2, 1, 2, 0, 0), Due.INDEX);
        DUE.is("P32 copy: 0 below 0, from", x.copy(0, -1, 1, 0, 0), Due.INDEX);
        DUE.is("P32 copy: 0 below 0, to", x.copy(0, 0, 1, -1, 0), Due.INDEX);
        DUE.is("P32 copy: 0 at the highest", x.copy(0, Due.HIGHEST, 1, 0, 0), Due.INDEX);
        row(x, 1, "P32 copy: nothing came", 0, 0, 0);
    }

    // Promise 32: "(or the same), as they were".
    private static void p32AsTheyWere() {
        WhiteSlope x = with(0, 1, 2, 3, 4);
        DUE.is("P32 copy: one place on", x.copy(0, 0, 0, 1, 3), 3);
        row(x, 0, "P32 copy: on, as they were", 1, 1, 2, 3);
        x = with(0, 1, 2, 3, 4);
        DUE.is("P32 copy: one place back", x.copy(0, 1, 0, 0, 3), 3);
        row(x, 0, "P32 copy: back, as they were", 2, 3, 4, 4);
        x = with(1, 1, Due.NONE, 3);
        DUE.is("P32 copy: onto itself", x.copy(0, 0, 0, 0, 3), 3);
        row(x, 0, "P32 copy: onto itself", 1, Due.KIND, 3);
    }

    // Promise 32: all 24 places; the last one alone.
    private static void p32Most() {
        WhiteSlope x = new WhiteSlope();
        x.sheet(0, 1, 24);
        x.sheet(3, 1, 24);
        x.mark(0, 0, 7);
        x.mark(0, 23, Due.NONE);
        DUE.is("P32 copy: 24", x.copy(0, 0, 3, 0, 24), 24);
        DUE.is("P32 copy: the first came", placeOf(x, 3, 0), 7);
        DUE.is("P32 copy: the last, which is NO NUMBER, came", placeOf(x, 3, 23), Due.KIND);
        DUE.is("P32 copy: 25", x.copy(0, 0, 3, 0, 25), Due.INDEX);
        DUE.is("P32 copy: the last alone", x.copy(3, 0, 0, 23, 1), 1);
        DUE.is("P32 copy: it came", placeOf(x, 0, 23), 7);
    }

    // Promise 33: "BAD: slot, thing, k".
    private static void p33Bad() {
        for (int slot : NO_SLOTS) {
            for (int thing = 0; thing < 4; thing++) {
                int t = thing;
                Twins.refused(DUE, "P33 lay: BAD slot " + slot + ", thing " + thing, Due.BAD, x -> x.lay(slot, t, 0));
            }
        }
        for (int thing : new int[] {-1, 4, Due.LOWEST, Due.HIGHEST}) {
            Twins.refused(DUE, "P33 lay: BAD thing " + thing, Due.BAD, x -> x.lay(0, thing, 0));
        }
        for (int k : new int[] {-1, 30, Due.LOWEST, Due.HIGHEST}) {
            Twins.refused(DUE, "P33 lay: BAD CELL " + k, Due.BAD, x -> x.lay(1, 1, k));
        }
        for (int k : NO_SHEETS) {
            Twins.refused(DUE, "P33 lay: BAD SHEET " + k, Due.BAD, x -> x.lay(0, 2, k));
        }
    }

    // Promise 33: "NOTHING: that SHEET is MISSING".
    private static void p33Nothing() {
        for (int slot = 0; slot < 5; slot++) {
            int s = slot;
            Twins.refused(DUE, "P33 lay: NOTHING into SLOT " + slot, Due.NOTHING, x -> x.lay(s, 2, 3));
        }
        DUE.is("P33 lay: a SHEET without places is not MISSING", Twins.rich().lay(3, 2, 2), 0);
    }

    // Promise 33: a number may be any; nothing needs no k.
    private static void p33AnyK() {
        for (int k : new int[] {0, -1, 30, Due.LOWEST, Due.HIGHEST, Due.NONE}) {
            WhiteSlope x = new WhiteSlope();
            DUE.is("P33 lay: the number " + k, x.lay(0, 3, k), 0);
            DUE.is("P33 lay: it is " + k, x.rest(0, Due.LOWEST), k == Due.LOWEST ? 0 : k);
            DUE.is("P33 lay: nothing, k " + k, x.lay(0, 0, k), 3);
            DUE.is("P33 lay: it holds nothing", x.rest(0, 1), Due.NOTHING);
        }
    }

    // Promise 33: BAD stands ahead of NOTHING.
    private static void p33BadAheadOfNothing() {
        DUE.is("P33 lay: BAD slot goes ahead of NOTHING", new WhiteSlope().lay(5, 2, 0), Due.BAD);
        DUE.is("P33 lay: BAD SHEET goes ahead of NOTHING", new WhiteSlope().lay(0, 2, 4), Due.BAD);
    }

    // Promise 33: "what it held (0 .. 3)", in the first and in the last SLOT.
    private static void p33Held() {
        for (int slot : new int[] {0, 4}) {
            WhiteSlope x = with(0, 1);
            int held = 0;
            for (int thing : new int[] {3, 3, 2, 2, 1, 1, 0, 0, 1, 2, 3, 1, 3, 2, 0, 2, 1, 0}) {
                DUE.is("P33 lay: SLOT " + slot + " held " + held, x.lay(slot, thing, 0), held);
                held = thing;
            }
        }
    }

    // Terms 5: "a PLACE (as it is then, for good), a SHEET (a row of its own, as it was then)".
    private static void p33AsItWasThen() {
        WhiteSlope x = with(0, 1, 2);
        x.place(29, 1, 20, 30);
        x.lay(0, 1, 29);
        x.lay(1, 2, 0);
        x.place(29, 5, 0, 999);
        x.mark(0, 0, 9);
        DUE.is("P33 lay: a PLACE for good", x.ask(0, 1), 50);
        DUE.is("P33 lay: a SHEET of its own", x.item(1, 0), 1);
        x.sheet(0, -1, 0);
        DUE.is("P33 lay: also when that one is MISSING", x.item(1, 1), 2);
        x.lay(2, 1, 29);
        DUE.is("P33 lay: a PLACE anew", x.ask(2, 5), 999);
    }

    // Promise 34: "BAD": slot, kind.
    private static void p34Bad() {
        for (int slot : NO_SLOTS) {
            Twins.refused(DUE, "P34 ask: BAD slot " + slot, Due.BAD, x -> x.ask(slot, 0));
        }
        for (int kind : new int[] {-1, 6, Due.LOWEST, Due.HIGHEST}) {
            Twins.refused(DUE, "P34 ask: BAD kind " + kind, Due.BAD, x -> x.ask(0, kind));
        }
    }

    // Promise 34: "NOTHING".
    private static void p34Nothing() {
        Twins.refused(DUE, "P34 ask: NOTHING", Due.NOTHING, x -> x.ask(3, 0));
    }

    // Promise 34: "KIND: it is no PLACE, or not of that KIND, nor of one under it".
    private static void p34Kind() {
        Twins.refused(DUE, "P34 ask: KIND, a SHEET", Due.KIND, x -> x.ask(1, 0));
        Twins.refused(DUE, "P34 ask: KIND, a number", Due.KIND, x -> x.ask(2, 0));
        // SLOT 0 of a rich object holds a TRAPPED PLACE.
        for (int kind : new int[] {2, 4, 5}) {
            Twins.refused(DUE, "P34 ask: KIND, TRAPPED for " + kind, Due.KIND, x -> x.ask(0, kind));
        }
        String[] under = {"100000", "110000", "101000", "110100", "101010", "100001"};
        for (int kind = 0; kind < 6; kind++) {
            WhiteSlope x = new WhiteSlope();
            x.place(0, kind, 30, 30);
            x.lay(0, 1, 0);
            for (int asked = 0; asked < 6; asked++) {
                DUE.is("P34 ask: KIND " + kind + " for " + asked, x.ask(0, asked),
                    under[kind].charAt(asked) == '1' ? x.told(0, 7) : Due.KIND);
            }
        }
    }

    // Promise 34: BAD stands ahead of NOTHING and KIND.
    private static void p34BadAheadOfNothing() {
        DUE.is("P34 ask: BAD kind goes ahead of NOTHING", new WhiteSlope().ask(0, 6), Due.BAD);
        DUE.is("P34 ask: BAD kind goes ahead of KIND", Twins.rich().ask(2, -1), Due.BAD);
    }

    // Promise 34: "WORTH (by its own KIND)", at its ends.
    private static void p34Ends() {
        WhiteSlope x = new WhiteSlope();
        int[] worth = {60, 1059, 0, 2118, 9, 999};
        for (int kind = 0; kind < 6; kind++) {
            x.place(29, kind, 60, 999);
            x.lay(4, 1, 29);
            DUE.is("P34 ask: WORTH by its own KIND " + kind, x.ask(4, 0), worth[kind]);
        }
    }

    // Promise 35: "BAD: slot".
    private static void p35Bad() {
        for (int slot : NO_SLOTS) {
            Twins.refused(DUE, "P35 item: BAD slot " + slot, Due.BAD, x -> x.item(slot, 0));
        }
    }

    // Promise 35: "NOTHING".
    private static void p35Nothing() {
        Twins.refused(DUE, "P35 item: NOTHING", Due.NOTHING, x -> x.item(3, 0));
    }

    // Promise 35: "KIND: it is no SHEET".
    private static void p35KindOfSlot() {
        Twins.refused(DUE, "P35 item: KIND, a PLACE", Due.KIND, x -> x.item(0, 0));
        Twins.refused(DUE, "P35 item: KIND, a number", Due.KIND, x -> x.item(2, 0));
    }

    // Promise 35: "INDEX".
    private static void p35Index() {
        for (int place : new int[] {-1, 4, 5, 24, Due.LOWEST, Due.HIGHEST}) {
            Twins.refused(DUE, "P35 item: INDEX " + place + " of 4", Due.INDEX, x -> x.item(1, place));
        }
        Twins.refused(DUE, "P35 item: INDEX 0 of none", Due.INDEX, x -> x.lay(3, 2, 2), x -> x.item(3, 0));
        WhiteSlope x = with(0, new int[24]);
        x.mark(0, 23, 6);
        x.lay(0, 2, 0);
        DUE.is("P35 item: the 24th place", x.item(0, 23), 6);
        DUE.is("P35 item: INDEX 24 of 24", x.item(0, 24), Due.INDEX);
        x.sheet(0, 0, 1);
        x.lay(0, 2, 0);
        DUE.is("P35 item: INDEX behind a shorter SHEET", x.item(0, 1), Due.INDEX);
    }

    // Promise 35: "KIND: NO NUMBER".
    private static void p35NoNumber() {
        Twins.refused(DUE, "P35 item: KIND, NO NUMBER", Due.KIND, x -> x.item(1, 1));
        DUE.is("P35 item: the one ahead of it is a number", Twins.rich().item(1, 0), 0);
        DUE.is("P35 item: the greatest float", Twins.rich().item(1, 3), 99999);
    }

    // Promise 35: BAD, NOTHING, KIND, INDEX, of several the first.
    private static void p35Order() {
        WhiteSlope x = Twins.rich();
        DUE.is("P35 item: BAD goes ahead", x.item(5, -1), Due.BAD);
        DUE.is("P35 item: NOTHING goes ahead of INDEX", x.item(3, -1), Due.NOTHING);
        DUE.is("P35 item: KIND goes ahead of INDEX, a PLACE", x.item(0, -1), Due.KIND);
        DUE.is("P35 item: KIND goes ahead of INDEX, a number", x.item(2, 24), Due.KIND);
    }

    // Promise 36: "BAD: slot".
    private static void p36Bad() {
        for (int slot : NO_SLOTS) {
            Twins.refused(DUE, "P36 rest: BAD slot " + slot, Due.BAD, x -> x.rest(slot, 3));
        }
    }

    // Promise 36: "NOTHING".
    private static void p36Nothing() {
        Twins.refused(DUE, "P36 rest: NOTHING", Due.NOTHING, x -> x.rest(3, 3));
    }

    // Promise 36: "KIND: it is no number".
    private static void p36Kind() {
        Twins.refused(DUE, "P36 rest: KIND, a PLACE", Due.KIND, x -> x.rest(0, 3));
        Twins.refused(DUE, "P36 rest: KIND, a SHEET", Due.KIND, x -> x.rest(1, 3));
    }

    // Promise 36: "NO: n is 0".
    private static void p36No() {
        Twins.refused(DUE, "P36 rest: NO", Due.NO, x -> x.rest(2, 0));
        Twins.refused(DUE, "P36 rest: NO for 0, too", Due.NO, x -> x.lay(3, 3, 0), x -> x.rest(3, 0));
    }

    // Promise 36: BAD, NOTHING, KIND, NO, of several the first.
    private static void p36Order() {
        WhiteSlope x = Twins.rich();
        DUE.is("P36 rest: BAD goes ahead of NO", x.rest(5, 0), Due.BAD);
        DUE.is("P36 rest: NOTHING goes ahead of NO", x.rest(3, 0), Due.NOTHING);
        DUE.is("P36 rest: KIND goes ahead of NO, a PLACE", x.rest(0, 0), Due.KIND);
        DUE.is("P36 rest: KIND goes ahead of NO, a SHEET", x.rest(1, 0), Due.KIND);
    }

    // Terms: "/ cuts towards 0", so that a rest has the number's sign.
    private static void p36Signs() {
        int[][] rests = {{17, 5, 2}, {17, -5, 2}, {-17, 5, -2}, {-17, -5, -2}, {5, 5, 0},
            {4, 5, 4}, {0, 5, 0}, {7, 1, 0}, {7, -1, 0}};
        for (int[] r : rests) {
            WhiteSlope x = new WhiteSlope();
            x.lay(4, 3, r[0]);
            DUE.is("P36 rest: of " + r[0] + " by " + r[1], x.rest(4, r[1]), r[2]);
        }
    }

    // Promise 36: the lowest int by -1, whose quotient is no int, and other ends.
    private static void p36Wrap() {
        int[][] rests = {{Due.LOWEST, -1, 0}, {Due.LOWEST, 1, 0}, {Due.LOWEST, Due.LOWEST, 0}, {Due.LOWEST, Due.HIGHEST, -1},
            {Due.HIGHEST, Due.LOWEST, Due.HIGHEST}, {Due.HIGHEST, -1, 0}, {Due.LOWEST, 10, -8}, {-1, Due.LOWEST, -1}};
        for (int[] r : rests) {
            WhiteSlope x = new WhiteSlope();
            x.lay(0, 3, r[0]);
            DUE.is("P36 rest: of " + r[0] + " by " + r[1], x.rest(0, r[1]), r[2]);
        }
    }
}
