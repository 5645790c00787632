/** Edges of Terms 5 and of the promises 37 to 41 (P37 to P41): no IMAGE, numbers missing or too many, refused calls. */
public final class RowsEdgesTest {
    private static final Due DUE = new Due("RowsEdgesTest");

    public static void main(String[] args) {
        p37AnyNumber();
        p37Full();
        p37RoomBehindCheck();
        p38Bad();
        p38No();
        p38BadAheadOfNo();
        p38NoneWaitThen();
        p38ChangesNothingElse();
        p38Ends();
        p38NoneWait();
        p38Missing();
        p38MissingThatWaitedOnce();
        p38TooMany();
        p38Wrong();
        p38ByTheImage();
        p39NewObject();
        p39MostLoad();
        p39Again();
        p40No();
        p40AgainAndAgain();
        p40LeavesOut();
        p40Everything();
        p40EachCount();
        p41Bad();
        p41Ends();
        theLastCallCounts();
        DUE.end();
    }

    /** A steep MOUNTAIN with much snow; alike each time, and an IMAGE of it. */
    private static WhiteSlope kept() {
        WhiteSlope x = new WhiteSlope();
        x.seed(31);
        x.deal();
        x.today(2, 9);
        x.keep();
        return x;
    }

    /** THE TICKS TOLD, worked out by another object that runs. */
    private static int[] ticksTold(int ticks) {
        WhiteSlope y = kept();
        int[] told = new int[2 * ticks];
        for (int i = 0; i < ticks; i++) {
            told[2 * i] = y.run(1);
            told[2 * i + 1] = y.count(0);
        }
        return told;
    }

    private static void tell(WhiteSlope x, int[] numbers, int many) {
        for (int i = 0; i < many; i++) {
            x.tell(numbers[i]);
        }
    }

    // Promise 37: any number may wait.
    private static void p37AnyNumber() {
        WhiteSlope x = new WhiteSlope();
        int many = 0;
        for (int v : new int[] {0, -1, Due.LOWEST, Due.HIGHEST, Due.NONE, Due.BAD}) {
            many++;
            DUE.is("P37 tell: " + v, x.tell(v), many);
        }
        DUE.is("P37 tell: they wait", x.count(7), many);
    }

    // Promise 37: "FULL: 60 wait".
    private static void p37Full() {
        WhiteSlope x = new WhiteSlope();
        for (int i = 1; i <= 60; i++) {
            DUE.is("P37 tell: the " + i + "th", x.tell(i), i);
        }
        DUE.is("P37 tell: FULL, the 61st", x.tell(61), Due.FULL);
        DUE.is("P37 tell: FULL again", x.tell(62), Due.FULL);
        DUE.is("P37 tell: 60 wait still", x.count(7), 60);
        // A rich object has four numbers that are THE TICKS TOLD of two; 56 more are too many.
        Twins.refused(DUE, "P37 tell: FULL", Due.FULL, y -> tell(y, new int[56], 56), y -> y.tell(1));
    }

    // Promise 37: none of the 60 is lost when one more is refused, and there is room behind check.
    private static void p37RoomBehindCheck() {
        WhiteSlope x = kept();
        tell(x, ticksTold(30), 60);
        x.tell(5);
        DUE.is("P37 tell: the 60 are as told", x.check(30), 0);
        DUE.is("P37 tell: room again", x.tell(1), 1);
    }

    // Promise 38: "BAD": n (1 .. 30).
    private static void p38Bad() {
        for (int n : new int[] {0, -1, 31, 32, Due.LOWEST, Due.HIGHEST}) {
            DUE.is("P38 check: BAD " + n, kept().check(n), Due.BAD);
            WhiteSlope x = kept();
            tell(x, ticksTold(30), 60);
            DUE.is("P38 check: BAD " + n + " with numbers", x.check(n), Due.BAD);
        }
    }

    // Promise 38: "NO: there is no IMAGE".
    private static void p38No() {
        for (int n : new int[] {1, 30}) {
            DUE.is("P38 check: NO, " + n, new WhiteSlope().check(n), Due.NO);
        }
    }

    // Promise 38: BAD stands ahead of NO.
    private static void p38BadAheadOfNo() {
        DUE.is("P38 check: BAD 0 goes ahead of NO", new WhiteSlope().check(0), Due.BAD);
        DUE.is("P38 check: BAD 31 goes ahead of NO", new WhiteSlope().check(31), Due.BAD);
    }

    // Promise 38: "(none do then, whatever is answered)".
    private static void p38NoneWaitThen() {
        WhiteSlope x = new WhiteSlope();
        x.tell(1);
        x.check(1);
        DUE.is("P38 check: none wait behind NO", x.count(7), 0);
        x = kept();
        for (int n : new int[] {0, 31}) {
            x.tell(1);
            x.check(n);
            DUE.is("P38 check: none wait behind BAD", x.count(7), 0);
        }
        tell(x, ticksTold(1), 2);
        DUE.is("P38 check: right", x.check(1), 0);
        DUE.is("P38 check: none wait behind right ones", x.count(7), 0);
        tell(x, new int[] {-1, -1, -1}, 3);
        DUE.is("P38 check: wrong", x.check(1), 1);
        DUE.is("P38 check: none wait behind wrong ones", x.count(7), 0);
        tell(x, ticksTold(3), 6);
        DUE.is("P38 check: too many", x.check(2), 5);
        DUE.is("P38 check: none wait behind too many", x.count(7), 0);
        DUE.is("P38 check: what waited is not asked again", x.check(2), 1);
        DUE.is("P38 check: the next one is the first", x.tell(4), 1);
    }

    // Promise 38: check changes nothing but the numbers that wait, whatever it answers.
    private static void p38ChangesNothingElse() {
        WhiteSlope y = Twins.rich();
        y.back();
        int[] told = {y.run(1), y.count(0), y.run(1), y.count(0)};
        for (int n : new int[] {0, 1, 2, 3, 30, 31}) {
            WhiteSlope asked = Twins.rich();
            asked.check(n);
            // A rich object has these four numbers that wait.
            tell(asked, told, 4);
            Twins.alike(DUE, "P38 check: " + n + " changes nothing else", asked, Twins.rich());
        }
        WhiteSlope asked = Twins.rich();
        int[] counts = {0, 1, 2, 3, 4, 5, 6, 8, 9};
        for (int what : counts) {
            int had = asked.count(what);
            asked.check(30);
            DUE.is("P38 check: count(" + what + ") stays", asked.count(what), had);
        }
    }

    // Promise 38: "n (1 .. 30), two by two: 0".
    private static void p38Ends() {
        for (int n = 1; n <= 30; n++) {
            WhiteSlope x = kept();
            tell(x, ticksTold(n), 2 * n);
            DUE.is("P38 check: " + n + " are right", x.check(n), 0);
        }
    }

    // Promise 38: no numbers at all: the first is missing.
    private static void p38NoneWait() {
        DUE.is("P38 check: none wait, 1", kept().check(1), 1);
        DUE.is("P38 check: none wait, 30", kept().check(30), 1);
    }

    // Promise 38: "how many stand right ahead of the first that .. is missing".
    private static void p38Missing() {
        int[] told = ticksTold(30);
        for (int many : new int[] {1, 2, 3, 57, 58, 59}) {
            WhiteSlope x = kept();
            tell(x, told, many);
            DUE.is("P38 check: missing behind " + many, x.check(30), 1 + many);
        }
    }

    // Promise 38: what waited ahead of the last check stands for nothing that is missing.
    private static void p38MissingThatWaitedOnce() {
        int[] told = ticksTold(30);
        for (int many = 0; many < 60; many += 7) {
            WhiteSlope x = kept();
            tell(x, told, 60);
            DUE.is("P38 check: all 60 wait", x.check(30), 0);
            tell(x, told, many);
            DUE.is("P38 check: " + many + " of them wait again", x.check(30), 1 + many);
        }
    }

    // Promise 38: "or one too many".
    private static void p38TooMany() {
        int[] told = ticksTold(30);
        for (int n : new int[] {1, 2, 15, 29}) {
            for (int more : new int[] {1, 2}) {
                WhiteSlope x = kept();
                tell(x, told, 2 * n + more);
                DUE.is("P38 check: " + more + " too many behind " + n, x.check(n), 1 + 2 * n);
            }
        }
        WhiteSlope x = kept();
        tell(x, told, 60);
        DUE.is("P38 check: 58 too many", x.check(1), 3);
    }

    // Promise 38: "the first that is not", at each place, and by one on each side.
    private static void p38Wrong() {
        for (int place : new int[] {0, 1, 2, 3, 30, 58, 59}) {
            for (int off : new int[] {-1, 1}) {
                int[] told = ticksTold(30);
                told[place] += off;
                if (place < 59) {
                    told[59] += 7;
                }
                WhiteSlope x = kept();
                tell(x, told, 60);
                DUE.is("P38 check: wrong by " + off + " at " + place, x.check(30), 1 + place);
            }
        }
        int[] told = ticksTold(2);
        told[0]++;
        WhiteSlope x = kept();
        tell(x, told, 3);
        DUE.is("P38 check: wrong goes ahead of missing", x.check(2), 1);
    }

    // Terms 5, THE TICKS TOLD: "by THE IMAGE", whatever came behind it; SLIDES in each TICK, not all SLID.
    private static void p38ByTheImage() {
        WhiteSlope x = kept();
        x.run(20);
        x.seed(5);
        x.deal();
        x.today(2, 0);
        Due.text(x, "hold 0");
        tell(x, ticksTold(30), 60);
        DUE.is("P38 check: by THE IMAGE", x.check(30), 0);
        WhiteSlope y = kept();
        int slid = y.run(30);
        DUE.holds("P38 check: there are SLIDES", slid > 30);
        y.keep();
        WhiteSlope z = kept();
        z.run(30);
        DUE.is("P38 check: an IMAGE that SLID", y.tell(z.run(1)), 1);
        y.tell(z.count(0));
        DUE.is("P38 check: SLIDES in the TICK alone", y.check(1), 0);
    }

    // Promise 39: no LOAD at all.
    private static void p39NewObject() {
        WhiteSlope x = new WhiteSlope();
        DUE.is("P39 keep: of a new object", x.keep(), 0);
        DUE.is("P39 keep: there is an IMAGE then", x.back(), 0);
    }

    // Promise 39: the most LOAD.
    private static void p39MostLoad() {
        WhiteSlope x = new WhiteSlope();
        for (int cell = 0; cell < 30; cell++) {
            x.set(cell, 1, 999);
        }
        DUE.is("P39 keep: the most LOAD", x.keep(), 29970);
        x.set(0, 1, 0);
        DUE.is("P39 keep: back to it", x.back(), 29970);
    }

    // Promise 39: one IMAGE: the later one stands for the earlier one.
    private static void p39Again() {
        WhiteSlope x = new WhiteSlope();
        x.set(3, 1, 11);
        x.keep();
        x.set(3, 1, 22);
        DUE.is("P39 keep: a later one", x.keep(), 22);
        x.set(3, 1, 33);
        DUE.is("P39 keep: it alone is kept", x.back(), 22);
        DUE.is("P39 keep: also the second time", x.back(), 22);
    }

    // Promise 40: "NO: there is none".
    private static void p40No() {
        WhiteSlope x = new WhiteSlope();
        WhiteSlope y = new WhiteSlope();
        for (WhiteSlope z : new WhiteSlope[] {x, y}) {
            z.seed(8);
            z.deal();
            z.track(3);
            z.tell(2);
            Due.feed(z, "risk 1");
            z.sheet(1, 1, 3);
            z.lay(2, 3, 7);
        }
        DUE.is("P40 back: NO", x.back(), Due.NO);
        DUE.is("P40 back: NO again", x.back(), Due.NO);
        Twins.alike(DUE, "P40 back: NO changes nothing", x, y);
    }

    // Terms 5: "all can become as it is (again and again)".
    private static void p40AgainAndAgain() {
        WhiteSlope x = kept();
        int all = x.count(0);
        for (int i = 0; i < 5; i++) {
            x.run(1 + i);
            DUE.is("P40 back: time " + i, x.back(), all);
            DUE.is("P40 back: HOUR, time " + i, x.count(3), 6);
        }
        DUE.is("P40 back: right behind back", x.back(), all);
    }

    // Terms 5: "all but SHEETS, SLOTS, numbers that wait, THE TAPE".
    private static void p40LeavesOut() {
        WhiteSlope x = new WhiteSlope();
        x.sheet(0, 0, 1);
        x.lay(0, 3, 5);
        x.tell(1);
        x.feed(1, 2, 3);
        x.keep();
        x.sheet(0, -1, 0);
        x.sheet(1, 0, 1);
        x.lay(0, 0, 0);
        x.lay(1, 3, 6);
        x.tell(2);
        x.feed(1, 2, 3);
        x.back();
        DUE.is("P40 back: a SHEET that is MISSING since", x.reads(0), Due.NOTHING);
        DUE.is("P40 back: a SHEET that is there since", x.reads(1), Due.NONE);
        DUE.is("P40 back: a SLOT that holds nothing since", x.rest(0, 9), Due.NOTHING);
        DUE.is("P40 back: a SLOT that holds a number since", x.rest(1, 9), 6);
        DUE.is("P40 back: numbers that wait", x.count(7), 2);
        DUE.is("P40 back: THE TAPE", x.count(8), 24);
        x.trim(0);
        x.check(0);
        x.back();
        DUE.is("P40 back: no numbers come back", x.count(7), 0);
        DUE.is("P40 back: no bytes come back", x.count(8), 0);
    }

    // Promise 40: "All is as THE IMAGE", with a full TRACK and all TEXTS, or with none.
    private static void p40Everything() {
        WhiteSlope x = new WhiteSlope();
        x.keep();
        for (int i = 0; i < 24; i++) {
            x.track(i % 2);
        }
        for (int i = 0; i < 14; i++) {
            Due.text(x, "risk " + i);
        }
        x.back();
        DUE.is("P40 back: no TRACK again", x.along(0), Due.NONE);
        DUE.is("P40 back: no TEXTS again", x.why(0), Due.NONE);
        DUE.is("P40 back: TEXT 0 is none", x.textTold(0, 0), Due.BAD);
        for (int i = 0; i < 24; i++) {
            x.track(28 + i % 2);
        }
        for (int i = 0; i < 14; i++) {
            Due.text(x, "hold " + i);
        }
        x.keep();
        x.wipe();
        x.track(3);
        x.back();
        DUE.is("P40 back: a full TRACK", x.track(28), Due.FULL);
        DUE.is("P40 back: its first CELL", x.at(0), 28);
        DUE.is("P40 back: its last CELL", x.at(23), 29);
        DUE.is("P40 back: all TEXTS", Due.text(x, "hold 1"), Due.FULL);
        DUE.is("P40 back: the last one counts", x.told(0, 6), 13);
    }

    // Promise 40: "All is as THE IMAGE": each number by itself, with all others changed.
    private static void p40EachCount() {
        WhiteSlope x = Twins.rich();
        x.keep();
        int[] had = new int[10];
        for (int what = 0; what < 10; what++) {
            had[what] = x.count(what);
        }
        x.run(5);
        x.today(0, 1);
        x.today(1, 1);
        x.today(2, 1);
        x.wipe();
        x.text();
        x.seed(4);
        x.deal();
        for (int what : new int[] {0, 1, 2, 3, 4, 5, 6, 9}) {
            DUE.holds("P40 back: count(" + what + ") is another ahead of it", x.count(what) != had[what]);
        }
        x.back();
        for (int what : new int[] {0, 1, 2, 3, 4, 5, 6, 9}) {
            DUE.is("P40 back: count(" + what + ")", x.count(what), had[what]);
        }
    }

    // Promise 41: "BAD".
    private static void p41Bad() {
        for (int what : new int[] {-1, 10, 11, Due.LOWEST, Due.HIGHEST}) {
            Twins.refused(DUE, "P41 count: BAD " + what, Due.BAD, x -> x.count(what));
        }
    }

    // Promise 41: each at its most.
    private static void p41Ends() {
        WhiteSlope x = new WhiteSlope();
        for (int cell = 0; cell < 30; cell++) {
            x.set(cell, 1, 999);
        }
        x.today(0, 5);
        x.today(1, 23);
        x.today(2, 9);
        for (int i = 0; i < 24; i++) {
            x.track(i % 2);
        }
        for (int i = 0; i < 14; i++) {
            Due.text(x, "risk 1");
        }
        for (int i = 0; i < 60; i++) {
            x.tell(0);
        }
        for (int i = 0; i < 8; i++) {
            x.feed(0, 0, 0);
        }
        x.seed(Due.LOWEST);
        int[] most = {29970, 0, 5, 23, 9, 24, 14, 60, 96, Due.LOWEST};
        for (int what = 0; what < 10; what++) {
            DUE.is("P41 count: most of " + what, x.count(what), most[what]);
        }
    }

    // "An object is used for at most 512 calls": the 512th is answered as the first one is.
    private static void theLastCallCounts() {
        WhiteSlope x = new WhiteSlope();
        long z = 1;
        for (int call = 1; call <= 511; call++) {
            x.run(1);
            z = Math.floorMod(z * 1103515245L + 12345L, 1L << 32);
        }
        DUE.is("512 calls: the last one", x.count(9), (int) z);
        x = new WhiteSlope();
        for (int call = 1; call <= 512; call++) {
            DUE.is("512 calls: a FAULT each time", x.text(), -100);
        }
    }
}
