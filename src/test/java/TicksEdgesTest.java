/** Edges of Terms 2 and of the promises 10 to 12 (P10 to P12): limits of LOADS, HOURS and TICKS, refused calls. */
public final class TicksEdgesTest {
    private static final Due DUE = new Due("TicksEdgesTest");

    public static void main(String[] args) {
        t2DrawWraps();
        t2DrawIsNeverBelowZero();
        t2FallIsCutAt999();
        t2DriftAbove20();
        t2DriftTenthIsCut();
        t2DriftIsByLoadsBehindTheFall();
        t2DriftDoesNotGoOn();
        t2DriftOfEachCell();
        t2DriftFromTheLastColumnIsGone();
        t2WoodedDoesNotDrift();
        t2DriftIsCutAt999();
        t2SlideFrom30();
        t2SlideAboveHold();
        t2SlideIsBehindTheDrift();
        t2SlideFromRow0IsGone();
        t2SlideLetsTheNextSlide();
        t2SlideIsCutAt999Behind();
        t2SlideWithHoldBelowZero();
        t2HourWraps();
        t2HourIsMoreBehindTheSlides();
        t2SlidCountsAll();
        p10Ends();
        p10Bad();
        p10CountsItsOwn();
        p11None();
        p11Ends();
        p11Bad();
        p11ChangesNothing();
        p11FirstOfEquals();
        p12One();
        p12Last();
        p12None();
        p12ChangesNothing();
        DUE.end();
    }

    /** The first draw behind seed 0 is 12345 >>> 8, whose rest by 3 is 0: with a FALL of 0 nothing falls in one TICK. */
    private static WhiteSlope dry() {
        WhiteSlope x = new WhiteSlope();
        x.seed(0);
        x.today(2, 0);
        return x;
    }

    /** A dry object on which PLACES hold so much. */
    private static WhiteSlope holding(int hold) {
        WhiteSlope x = dry();
        DUE.is("hold " + hold + " is a TEXT", Due.text(x, "hold " + hold), 0);
        return x;
    }

    /** z behind a draw, worked out without a wrap; as a number of 0 or more. */
    private static long drawn(long z) {
        return Math.floorMod(z * 1103515245L + 12345L, 1L << 32);
    }

    // Terms 2: "z becomes z * 1103515245 + 12345 (an int)".
    private static void t2DrawWraps() {
        for (int seed : new int[] {Due.HIGHEST, Due.LOWEST, -1, 2, 1 << 20}) {
            WhiteSlope x = new WhiteSlope();
            x.seed(seed);
            x.run(1);
            DUE.is("T2 draw: z wraps behind " + seed, x.count(9), (int) drawn(seed));
        }
    }

    // Terms 2: "it gives z >>> 8", which is not below 0 where z is.
    private static void t2DrawIsNeverBelowZero() {
        int below = 0;
        for (int seed = 0; seed < 60; seed++) {
            WhiteSlope x = dry();
            x.seed(seed);
            x.run(1);
            long z = drawn(seed);
            below += z >= 1L << 31 ? 1 : 0;
            DUE.is("T2 draw: z >>> 8 behind seed " + seed, x.told(29, 2), z / 256 % 3);
        }
        DUE.holds("T2 draw: some z were below 0", below > 10 && below < 50);
    }

    // Terms 2: "(LOADS above 999 become 999 behind each of these three.)", behind (1).
    private static void t2FallIsCutAt999() {
        int[][] loads = {{989, 998}, {990, 999}, {991, 999}, {999, 999}};
        for (int[] l : loads) {
            WhiteSlope x = dry();
            x.today(2, 9);
            x.place(29, 5, 0, l[0]);
            x.run(1);
            DUE.is("T2 fall: " + l[0] + " and 9", x.told(29, 2), l[1]);
        }
        WhiteSlope x = dry();
        x.today(2, 9);
        x.place(29, 0, 0, 999);
        x.run(1);
        DUE.is("T2 fall: it is cut ahead of the DRIFT, 97 of 999 go", x.told(29, 2), 902);
    }

    /** LOADS of a CELL and the next one behind a TICK that lets this LOAD drift. */
    private static void drifts(String which, int load, int stays, int comes) {
        WhiteSlope x = dry();
        x.set(13, 1, load);
        x.run(1);
        DUE.is(which + ": " + load + " leaves", x.told(13, 2), stays);
        DUE.is(which + ": of " + load + " comes", x.told(14, 2), comes);
    }

    // Terms 2, DRIFT: "with a LOAD above 20".
    private static void t2DriftAbove20() {
        drifts("T2 DRIFT: not above 20", 0, 0, 0);
        drifts("T2 DRIFT: not above 20", 10, 10, 0);
        drifts("T2 DRIFT: not above 20", 20, 20, 0);
        drifts("T2 DRIFT: above 20", 120, 110, 10);
    }

    // Terms 2, DRIFT: "a tenth (cut) of what is above 20".
    private static void t2DriftTenthIsCut() {
        drifts("T2 DRIFT: a tenth, cut", 21, 21, 0);
        drifts("T2 DRIFT: a tenth, cut", 29, 29, 0);
        drifts("T2 DRIFT: a tenth, cut", 30, 29, 1);
        drifts("T2 DRIFT: a tenth, cut", 39, 38, 1);
        drifts("T2 DRIFT: a tenth, cut", 40, 38, 2);
        drifts("T2 DRIFT: a tenth, cut", 999, 902, 97);
    }

    // Terms 2, DRIFT: "LOADS as they are behind (1)": what fell drifts, too.
    private static void t2DriftIsByLoadsBehindTheFall() {
        WhiteSlope x = dry();
        x.today(2, 9);
        x.set(13, 1, 21);
        x.set(19, 1, 20);
        x.run(1);
        DUE.is("T2 DRIFT: 21 and 9 that fell", x.told(13, 2), 29);
        DUE.is("T2 DRIFT: the next one has 1 more", x.told(14, 2), 10);
        DUE.is("T2 DRIFT: 20 and 9 that fell: none", x.told(19, 2), 29);
    }

    // Terms 2, DRIFT: "LOADS as they are behind (1)": what drifts in does not drift on.
    private static void t2DriftDoesNotGoOn() {
        WhiteSlope x = dry();
        x.set(6, 1, 999);
        x.set(7, 1, 20);
        x.set(8, 1, 29);
        x.run(1);
        int[] loads = {902, 117, 29, 0};
        for (int i = 0; i < 4; i++) {
            DUE.is("T2 DRIFT: COLUMN " + i + " does not pass on", x.told(6 + i, 2), loads[i]);
        }
    }

    // Terms 2, DRIFT: "of each CELL": the first ones of all ROWS, too.
    private static void t2DriftOfEachCell() {
        for (int cell = 0; cell < 30; cell++) {
            WhiteSlope x = dry();
            x.set(cell, 1, 120);
            x.run(1);
            DUE.is("T2 DRIFT: from CELL " + cell, x.told(cell, 2), 110);
            DUE.is("T2 DRIFT: all LOAD behind CELL " + cell, x.count(0), cell % 6 == 5 ? 110 : 120);
            if (cell % 6 < 5) {
                DUE.is("T2 DRIFT: to the next of CELL " + cell, x.told(cell + 1, 2), 10);
            }
        }
    }

    // Terms 2, DRIFT: "(from COLUMN 5 it is gone)".
    private static void t2DriftFromTheLastColumnIsGone() {
        for (int row = 0; row < 5; row++) {
            WhiteSlope x = dry();
            x.set(row * 6 + 5, 1, 120);
            x.run(1);
            DUE.is("T2 DRIFT: from COLUMN 5 of ROW " + row, x.told(row * 6 + 5, 2), 110);
            DUE.is("T2 DRIFT: it is gone from ROW " + row, x.count(0), 110);
        }
    }

    // Terms 2, DRIFT: "of each CELL that is not WOODED".
    private static void t2WoodedDoesNotDrift() {
        for (int kind = 0; kind < 6; kind++) {
            WhiteSlope x = dry();
            x.place(13, kind, 0, 120);
            x.place(14, 5, 0, 0);
            x.run(1);
            DUE.is("T2 DRIFT: from KIND " + kind, x.told(13, 2), kind == 5 ? 120 : 110);
            DUE.is("T2 DRIFT: into WOODED", x.told(14, 2), kind == 5 ? 0 : 10);
        }
    }

    // Terms 2: LOADS above 999 become 999 behind (2).
    private static void t2DriftIsCutAt999() {
        WhiteSlope x = dry();
        x.set(6, 1, 120);
        x.place(7, 5, 0, 989);
        x.set(12, 1, 120);
        x.place(13, 5, 0, 990);
        x.set(18, 1, 999);
        x.set(19, 1, 999);
        x.run(1);
        DUE.is("T2 DRIFT: 10 to 989", x.told(7, 2), 999);
        DUE.is("T2 DRIFT: 10 to 990 is cut", x.told(13, 2), 999);
        DUE.is("T2 DRIFT: what goes goes ahead of the cut", x.told(19, 2), 999);
        DUE.is("T2 DRIFT: and on", x.told(20, 2), 97);
    }

    // Terms 2, SLIDES: "with a STEEP of 30 or more".
    private static void t2SlideFrom30() {
        int[][] steeps = {{0, 0}, {29, 0}, {30, 1}, {60, 1}};
        for (int[] s : steeps) {
            WhiteSlope x = holding(0);
            x.place(13, 0, s[0], 9);
            DUE.is("T2 SLIDES: STEEP " + s[0], x.run(1), s[1]);
            DUE.is("T2 SLIDES: LOAD below STEEP " + s[0], x.told(7, 2), 9 * s[1]);
        }
    }

    // Terms 2, SLIDES: "a LOAD above HOLD".
    private static void t2SlideAboveHold() {
        int[] more = {0, 0, 5, 0, 5, 20};
        for (int kind = 0; kind < 6; kind++) {
            for (int over = -1; over <= 1; over++) {
                WhiteSlope x = holding(9);
                // Only WOODED can hold more than 20, and does not drift.
                x.place(13, kind, 30, 9 + more[kind] + over);
                DUE.is("T2 SLIDES: KIND " + kind + ", LOAD " + over + " over HOLD", x.run(1), over > 0 ? 1 : 0);
            }
        }
        WhiteSlope x = dry();
        x.place(13, 0, 60, 10);
        DUE.is("T2 SLIDES: without a TEXT 60 holds 10", x.run(1), 0);
        x = dry();
        x.place(13, 0, 60, 11);
        DUE.is("T2 SLIDES: without a TEXT 60 does not hold 11", x.run(1), 1);
    }

    // Terms 2, SLIDES come behind the DRIFT, by LOADS as they are then.
    private static void t2SlideIsBehindTheDrift() {
        WhiteSlope x = dry();
        x.place(17, 0, 30, 42);
        DUE.is("T2 SLIDES: 42 less 2 that drift is not above 40", x.run(1), 0);
        x = dry();
        x.place(17, 0, 30, 43);
        DUE.is("T2 SLIDES: 43 less 2 is", x.run(1), 1);
        DUE.is("T2 SLIDES: what drifted does not slide", x.told(11, 2), 41);
        x = holding(9);
        x.set(12, 1, 30);
        x.place(13, 0, 30, 9);
        DUE.is("T2 SLIDES: what drifts in lets it slide", x.run(1), 1);
    }

    // Terms 2, SLIDES: "(from ROW 0 it is gone)".
    private static void t2SlideFromRow0IsGone() {
        for (int column = 0; column < 6; column++) {
            WhiteSlope x = holding(0);
            x.place(column, 0, 30, 9);
            DUE.is("T2 SLIDES: from ROW 0, COLUMN " + column, x.run(1), 1);
            DUE.is("T2 SLIDES: it is gone, COLUMN " + column, x.count(0), 0);
            x = holding(0);
            x.place(24 + column, 0, 30, 9);
            x.run(1);
            DUE.is("T2 SLIDES: from ROW 4 it is below, COLUMN " + column, x.told(18 + column, 2), 9);
        }
    }

    // Terms 2, SLIDES: "ROW 4 first, then 3, 2, 1, 0"; "which may SLIDE then, too".
    private static void t2SlideLetsTheNextSlide() {
        WhiteSlope x = holding(9);
        x.place(28, 0, 30, 10);
        for (int cell = 22; cell >= 4; cell -= 6) {
            x.place(cell, 0, 30, cell == 22 ? 9 : 0);
        }
        DUE.is("T2 SLIDES: from ROW 4 to beyond ROW 0", x.run(1), 5);
        DUE.is("T2 SLIDES: all is gone", x.count(0), 0);
        x = holding(9);
        x.place(28, 0, 30, 10);
        x.place(22, 0, 30, 10);
        DUE.is("T2 SLIDES: two, one into the other", x.run(1), 2);
        DUE.is("T2 SLIDES: both came to ROW 2", x.told(16, 2), 20);
        x = holding(9);
        x.place(28, 0, 30, 9);
        x.place(22, 0, 30, 10);
        DUE.is("T2 SLIDES: the upper one stays", x.run(1), 1);
        DUE.is("T2 SLIDES: with its LOAD", x.told(28, 2), 9);
    }

    // Terms 2: LOADS above 999 become 999 behind (3), not on their way.
    private static void t2SlideIsCutAt999Behind() {
        WhiteSlope x = holding(99);
        x.place(27, 5, 30, 990);
        x.place(21, 5, 0, 9);
        x.place(26, 5, 30, 990);
        x.place(20, 5, 0, 10);
        x.run(1);
        DUE.is("T2 SLIDES: 990 to 9", x.told(21, 2), 999);
        DUE.is("T2 SLIDES: 990 to 10 is cut", x.told(20, 2), 999);
        DUE.is("T2 SLIDES: all LOAD", x.count(0), 1998);
        for (int cell = 0; cell < 24; cell++) {
            x = holding(99);
            x.place(cell + 6, 5, 30, 999);
            x.place(cell, 5, 0, 999);
            x.run(1);
            DUE.is("T2 SLIDES: 999 to 999 is cut at CELL " + cell, x.told(cell, 2), 999);
        }
        x = holding(0);
        x.today(1, 23);
        x.place(24, 5, 30, 999);
        x.place(18, 5, 30, 999);
        // SUNNED at HOUR 23 holds less than 0, and so SLIDES with any LOAD.
        x.place(12, 4, 30, 0);
        x.place(6, 5, 0, 0);
        DUE.is("T2 SLIDES: three, 1998 on their way", x.run(1), 3);
        DUE.is("T2 SLIDES: 999 in the end", x.told(6, 2), 999);
        DUE.is("T2 SLIDES: and nothing else", x.count(0), 999);
    }

    // Terms 1 and 2: a HOLD may be below 0, and a LOAD of 0 is above it.
    private static void t2SlideWithHoldBelowZero() {
        int[][] hours = {{14, 0}, {15, 1}};
        for (int[] h : hours) {
            WhiteSlope x = holding(0);
            x.today(1, h[0]);
            x.place(13, 4, 30, 0);
            DUE.is("T2 SLIDES: no LOAD, SUNNED at HOUR " + h[0], x.run(1), h[1]);
            DUE.is("T2 SLIDES: SLID at HOUR " + h[0], x.count(1), h[1]);
        }
    }

    // Terms 2: "HOUR is 1 more (behind 23 it is 0)".
    private static void t2HourWraps() {
        for (int hour = 0; hour < 24; hour++) {
            WhiteSlope x = new WhiteSlope();
            x.today(1, hour);
            x.run(1);
            DUE.is("T2 HOUR behind " + hour, x.count(3), hour == 23 ? 0 : hour + 1);
        }
        WhiteSlope x = new WhiteSlope();
        x.today(1, 23);
        x.run(26);
        DUE.is("T2 HOUR wraps twice in 26 TICKS", x.count(3), 1);
    }

    // Terms 2: (4) is behind (3), so that SUN is that of the HOUR ahead of it.
    private static void t2HourIsMoreBehindTheSlides() {
        WhiteSlope x = holding(0);
        x.today(1, 9);
        x.place(13, 4, 30, 5);
        DUE.is("T2 HOUR: at 9 there is no SUN yet", x.run(1), 0);
        x.seed(0);
        DUE.is("T2 HOUR: at 10 there is", x.run(1), 1);
        x = holding(0);
        x.today(1, 23);
        x.place(13, 4, 30, 0);
        DUE.is("T2 HOUR: at 23 the SUN is full", x.run(1), 1);
        x.seed(0);
        DUE.is("T2 HOUR: at 0 it is gone", x.run(1), 0);
    }

    // Terms 2: "SLID counts all SLIDES (0 at first)".
    private static void t2SlidCountsAll() {
        WhiteSlope x = holding(0);
        for (int i = 1; i <= 3; i++) {
            x.place(0, 0, 30, 9);
            x.place(29, 0, 30, 9);
            x.seed(0);
            x.run(1);
            DUE.is("T2 SLID behind " + i + " TICKS", x.count(1), 2 * i);
        }
    }

    // Promise 10: "n (1 .. 48) TICKS".
    private static void p10Ends() {
        WhiteSlope once = Twins.rich();
        WhiteSlope often = Twins.rich();
        int slides = 0;
        for (int i = 0; i < 48; i++) {
            slides += often.run(1);
        }
        DUE.is("P10 run: 48 are 48 times 1", once.run(48), slides);
        DUE.holds("P10 run: there were SLIDES", slides > 48);
        Twins.alike(DUE, "P10 run: 48 are 48 times 1", once, often);
    }

    // Promise 10: "BAD".
    private static void p10Bad() {
        for (int n : new int[] {0, -1, 49, 50, Due.LOWEST, Due.HIGHEST, Due.NONE}) {
            Twins.refused(DUE, "P10 run: BAD n " + n, Due.BAD, x -> x.run(n));
        }
    }

    // Promise 10: "how many SLIDES there were" in these TICKS, not in all.
    private static void p10CountsItsOwn() {
        WhiteSlope x = holding(0);
        x.place(0, 0, 30, 9);
        DUE.is("P10 run: one SLIDE", x.run(1), 1);
        x.seed(0);
        DUE.is("P10 run: none in the next", x.run(1), 0);
        DUE.is("P10 run: SLID", x.count(1), 1);
    }

    // Promise 11: "n (0 .. 48)": 0 is now.
    private static void p11None() {
        WhiteSlope x = holding(0);
        x.place(7, 0, 30, 9);
        x.run(1);
        x.set(8, 1, 25);
        DUE.is("P11 ahead: 0 TICKS, all LOAD", x.ahead(0, 0), 34);
        DUE.is("P11 ahead: 0 TICKS, no SLIDES in them", x.ahead(0, 1), 0);
        DUE.is("P11 ahead: 0 TICKS, the greatest LOAD", x.ahead(0, 2), 25);
        DUE.is("P11 ahead: 0 TICKS, its CELL", x.ahead(0, 3), 8);
    }

    // Promise 11: "n (0 .. 48)": 1 and 48 are as run tells them.
    private static void p11Ends() {
        for (int n : new int[] {1, 48}) {
            WhiteSlope x = Twins.rich();
            WhiteSlope y = Twins.rich();
            DUE.is("P11 ahead: SLIDES in " + n, x.ahead(n, 1), y.run(n));
            DUE.is("P11 ahead: all LOAD behind " + n, x.ahead(n, 0), y.count(0));
            DUE.is("P11 ahead: the greatest LOAD behind " + n, x.ahead(n, 2), y.ahead(0, 2));
            DUE.is("P11 ahead: its CELL behind " + n, x.ahead(n, 3), y.ahead(0, 3));
            DUE.is("P11 ahead: it is that CELL's, behind " + n, y.told(x.ahead(n, 3), 2), x.ahead(n, 2));
        }
    }

    // Promise 11: "BAD".
    private static void p11Bad() {
        int[][] bad = {{-1, 0}, {49, 0}, {Due.LOWEST, 0}, {Due.HIGHEST, 0}, {0, -1}, {0, 4}, {48, 4}, {0, Due.LOWEST},
            {0, Due.HIGHEST}, {-1, -1}, {49, 4}};
        for (int[] b : bad) {
            Twins.refused(DUE, "P11 ahead: BAD n " + b[0] + ", what " + b[1], Due.BAD, x -> x.ahead(b[0], b[1]));
        }
    }

    // Promise 11: "only thought (nothing changes, z neither)".
    private static void p11ChangesNothing() {
        for (int what = 0; what < 4; what++) {
            int asked = what;
            long want = Twins.rich().ahead(48, what);
            Twins.refused(DUE, "P11 ahead: only thought, what " + what, want, x -> x.ahead(48, asked));
        }
    }

    // Promise 11: "the first CELL with it".
    private static void p11FirstOfEquals() {
        WhiteSlope x = new WhiteSlope();
        DUE.is("P11 ahead: all have none, the first", x.ahead(0, 3), 0);
        for (int cell = 0; cell < 30; cell++) {
            WhiteSlope one = new WhiteSlope();
            one.set(cell, 1, 1);
            DUE.is("P11 ahead: one alone", one.ahead(0, 3), cell);
        }
        x.set(29, 1, 7);
        x.set(17, 1, 7);
        DUE.is("P11 ahead: the first of two", x.ahead(0, 3), 17);
        x.set(0, 1, 7);
        DUE.is("P11 ahead: the first of three", x.ahead(0, 3), 0);
        x.set(16, 1, 6);
        x.set(0, 1, 0);
        DUE.is("P11 ahead: one less is not with it", x.ahead(0, 3), 17);
    }

    // Promise 12: "How many TICKS (1 .. 48)": 1 is the least.
    private static void p12One() {
        WhiteSlope x = holding(0);
        x.place(13, 0, 30, 1);
        DUE.is("P12 calm: a SLIDE in the first TICK", x.calm(), 1);
    }

    /** An object whose only SLIDE comes in that TICK: WOODED holds 119, nothing drifts, and what falls is known. */
    private static WhiteSlope slidesIn(int tick) {
        for (int seed = 0; seed < 100; seed++) {
            long z = seed;
            int fallen = 0;
            int last = 0;
            for (int i = 0; i < tick; i++) {
                z = drawn(z);
                last = (int) (z / 256 % 3);
                fallen += last;
            }
            if (last > 0) {
                WhiteSlope x = holding(99);
                x.seed(seed);
                x.place(0, 5, 30, 120 - fallen);
                return x;
            }
        }
        return new WhiteSlope();
    }

    // Promise 12: "(1 .. 48)": 48 is the most.
    private static void p12Last() {
        DUE.is("P12 calm: in the 2nd", slidesIn(2).calm(), 2);
        DUE.is("P12 calm: in the 47th", slidesIn(47).calm(), 47);
        DUE.is("P12 calm: in the 48th", slidesIn(48).calm(), 48);
    }

    // Promise 12: "NONE: not in these".
    private static void p12None() {
        DUE.is("P12 calm: NONE, the 49th is too late", slidesIn(49).calm(), Due.NONE);
        DUE.is("P12 calm: NONE on flat ground", new WhiteSlope().calm(), Due.NONE);
        Twins.refused(DUE, "P12 calm: NONE, only thought", Due.NONE, TicksEdgesTest::flatten, WhiteSlope::calm);
    }

    private static void flatten(WhiteSlope x) {
        for (int cell = 0; cell < 30; cell++) {
            x.set(cell, 0, 0);
        }
    }

    // Promise 12: "only thought".
    private static void p12ChangesNothing() {
        long want = Twins.rich().calm();
        DUE.holds("P12 calm: a SLIDE comes", want >= 1);
        Twins.refused(DUE, "P12 calm: only thought", want, WhiteSlope::calm);
    }
}
