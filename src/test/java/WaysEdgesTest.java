/** Edges of Terms 3 and of the promises 18 to 22 (P18 to P22): ways to oneself, least and most steps, refused calls. */
public final class WaysEdgesTest {
    private static final Due DUE = new Due("WaysEdgesTest");
    private static final int[] NO_CELLS = {-1, 30, 31, Due.LOWEST, Due.HIGHEST, Due.NONE};

    public static void main(String[] args) {
        p18Bad();
        p18BadWhat();
        p18ToItself();
        p18Ends();
        p18None();
        p18FirstOneDoesNotCount();
        p18LongestWay();
        p18Order();
        p18MostRisk();
        p19Bad();
        p19NoSteps();
        p19None();
        p19JustEnough();
        p19MostSteps();
        p19FirstOneDoesNotCount();
        p20Bad();
        p20ToItself();
        p20TheseTwoToo();
        p20Ends();
        p21Bad();
        p21Ends();
        p21OrLess();
        p21ItCountsToo();
        p22Bad();
        p22BadIsALong();
        p22Zero();
        p22Hundred();
        p22LowestTerms();
        p22Most();
        DUE.end();
    }

    /** Risky ground all over (RISK 22, STEEP 40) but for a flat path. */
    private static WhiteSlope path(int... cells) {
        WhiteSlope x = new WhiteSlope();
        for (int cell = 0; cell < 30; cell++) {
            x.place(cell, 0, 40, 0);
        }
        for (int cell : cells) {
            x.place(cell, 0, 10, 0);
        }
        return x;
    }

    // Promise 18: "BAD": from, to.
    private static void p18Bad() {
        for (int cell : NO_CELLS) {
            for (int what : new int[] {0, 1, 2, 10}) {
                Twins.refused(DUE, "P18 way: BAD from " + cell + ", what " + what, Due.BAD, x -> x.way(cell, 3, what));
                Twins.refused(DUE, "P18 way: BAD to " + cell + ", what " + what, Due.BAD, x -> x.way(3, cell, what));
            }
        }
    }

    // Promise 18: "BAD": what below 0, and 3 .. 9.
    private static void p18BadWhat() {
        for (int what : new int[] {-1, Due.LOWEST, 3, 4, 5, 6, 7, 8, 9}) {
            Twins.refused(DUE, "P18 way: BAD what " + what, Due.BAD, x -> x.way(0, 29, what));
        }
    }

    // Promise 18: from a CELL to itself: no step.
    private static void p18ToItself() {
        for (int cell : new int[] {0, 13, 29}) {
            WhiteSlope x = path();
            DUE.is("P18 way: to itself, RISKS", x.way(cell, cell, 0), 0);
            DUE.is("P18 way: to itself, steps", x.way(cell, cell, 1), 0);
            DUE.is("P18 way: to itself, STEPS", x.way(cell, cell, 2), 0);
            DUE.is("P18 way: to itself, the first CELL", x.way(cell, cell, 10), cell);
            DUE.is("P18 way: to itself, no second CELL", x.way(cell, cell, 11), Due.NONE);
        }
    }

    // Promise 18: "10 and i: the i-th CELL of it (0 the first ..": the last one is at the number of steps.
    private static void p18Ends() {
        WhiteSlope x = new WhiteSlope();
        DUE.is("P18 way: steps from end to end", x.way(0, 29, 1), 9);
        DUE.is("P18 way: the first CELL", x.way(0, 29, 10), 0);
        DUE.is("P18 way: the last CELL", x.way(0, 29, 19), 29);
        DUE.is("P18 way: back, the last CELL", x.way(29, 0, 19), 0);
    }

    // Promise 18: "NONE: there is none".
    private static void p18None() {
        for (int what : new int[] {20, 21, 40, 1000, Due.HIGHEST}) {
            DUE.is("P18 way: NONE, what " + what, new WhiteSlope().way(0, 29, what), Due.NONE);
        }
        Twins.refused(DUE, "P18 way: NONE", Due.NONE, x -> x.way(0, 1, 40));
    }

    // Terms 3, THE WAY: "RISKS of all CELLS but the first one".
    private static void p18FirstOneDoesNotCount() {
        WhiteSlope x = new WhiteSlope();
        x.place(0, 0, 40, 0);
        DUE.is("P18 way: RISK of the first one does not count", x.way(0, 1, 0), 0);
        DUE.is("P18 way: RISK of the last one does", x.way(1, 0, 0), 22);
    }

    // Terms 3, THE WAY: the longest that a MOUNTAIN can ask for goes to and fro over all ROWS.
    private static void p18LongestWay() {
        int[] path = {0, 1, 2, 3, 4, 5, 11, 17, 16, 15, 14, 13, 12, 18, 24, 25, 26, 27, 28, 29};
        WhiteSlope x = path(path);
        DUE.is("P18 way: RISKS of the longest", x.way(0, 29, 0), 0);
        DUE.is("P18 way: steps of the longest", x.way(0, 29, 1), 19);
        for (int i = 0; i < path.length; i++) {
            DUE.is("P18 way: CELL " + i + " of the longest", x.way(0, 29, 10 + i), path[i]);
        }
        DUE.is("P18 way: NONE behind the longest", x.way(0, 29, 30), Due.NONE);
        // Each STEP is 1 and STEEP / 10, 2 more for each of four ROWS.
        DUE.is("P18 way: STEPS of the longest", x.way(0, 29, 2), 19 * 2 + 4 * 2);
    }

    // Terms 3, THE WAY: "of several with the fewest steps; of several the first one by the order of those BESIDE".
    private static void p18Order() {
        WhiteSlope x = new WhiteSlope();
        int[] up = {7, 13, 14};
        int[] next = {13, 14, 8};
        int[] down = {14, 8, 7};
        int[] next2 = {19, 20, 14};
        for (int i = 0; i < 3; i++) {
            DUE.is("P18 way: above ahead of the next one", x.way(7, 14, 10 + i), up[i]);
            DUE.is("P18 way: the next one ahead of below", x.way(13, 8, 10 + i), next[i]);
            DUE.is("P18 way: below ahead of the one ahead", x.way(14, 7, 10 + i), down[i]);
            DUE.is("P18 way: the next one ahead of below, again", x.way(19, 14, 10 + i), next2[i]);
        }
        int[] ahead = {8, 14, 13};
        for (int i = 0; i < 3; i++) {
            DUE.is("P18 way: above ahead of the one ahead", x.way(8, 13, 10 + i), ahead[i]);
        }
    }

    // Terms 1 and 3: the greatest RISKS that can come together.
    private static void p18MostRisk() {
        WhiteSlope x = new WhiteSlope();
        Due.text(x, "risk 999");
        for (int cell = 0; cell < 30; cell++) {
            x.turns(cell, 3);
        }
        // Of ROW 4 nothing is above: 2 * 999; of the others 2 * (999 + 499).
        DUE.is("P18 way: most RISKS, steps", x.way(24, 5, 1), 9);
        DUE.is("P18 way: most RISKS", x.way(24, 5, 0), 5 * 1998 + 4 * 2996);
        DUE.is("P18 way: most RISKS, up", x.way(5, 24, 0), 3 * 2996 + 1998 + 5 * 1998);
        DUE.is("P19 bound: most RISKS", x.bound(24, 5, 40), 5 * 1998 + 4 * 2996);
    }

    // Promise 19: "BAD".
    private static void p19Bad() {
        for (int cell : NO_CELLS) {
            Twins.refused(DUE, "P19 bound: BAD from " + cell, Due.BAD, x -> x.bound(cell, 3, 9));
            Twins.refused(DUE, "P19 bound: BAD to " + cell, Due.BAD, x -> x.bound(3, cell, 9));
        }
        for (int n : new int[] {-1, 41, Due.LOWEST, Due.HIGHEST}) {
            Twins.refused(DUE, "P19 bound: BAD n " + n, Due.BAD, x -> x.bound(0, 1, n));
            Twins.refused(DUE, "P19 bound: BAD n " + n + " to itself", Due.BAD, x -> x.bound(4, 4, n));
        }
    }

    // Promise 19: "n (0 .. 40)": by no step one is where one is.
    private static void p19NoSteps() {
        WhiteSlope x = path();
        DUE.is("P19 bound: 0 steps to itself", x.bound(7, 7, 0), 0);
        DUE.is("P19 bound: 0 steps to the one beside", x.bound(7, 8, 0), Due.NONE);
        DUE.is("P19 bound: 40 steps to itself", x.bound(7, 7, 40), 0);
    }

    // Promise 19: "NONE: in so many one is not there".
    private static void p19None() {
        Twins.refused(DUE, "P19 bound: NONE, 8 of 9 steps", Due.NONE, x -> x.bound(0, 29, 8));
        Twins.refused(DUE, "P19 bound: NONE, 0 of 1 step", Due.NONE, x -> x.bound(0, 1, 0));
        for (int cell = 1; cell < 30; cell++) {
            int far = cell / 6 + cell % 6;
            DUE.is("P19 bound: NONE, to " + cell, new WhiteSlope().bound(0, cell, far - 1), Due.NONE);
            DUE.is("P19 bound: just there, to " + cell, new WhiteSlope().bound(0, cell, far), 0);
        }
    }

    // Promise 19: "by n steps at most": a longer way with less RISK counts from so many on, and not ahead.
    private static void p19JustEnough() {
        WhiteSlope x = path(0, 6, 12, 13, 14, 8, 2);
        DUE.is("P19 bound: 1 step is too few", x.bound(0, 2, 1), Due.NONE);
        for (int n = 2; n < 6; n++) {
            DUE.is("P19 bound: straight on by " + n, x.bound(0, 2, n), 22);
        }
        for (int n = 6; n <= 40; n++) {
            DUE.is("P19 bound: round by " + n, x.bound(0, 2, n), 0);
        }
    }

    // Promise 19: "n (0 .. 40)": 40 steps are more than any way needs.
    private static void p19MostSteps() {
        WhiteSlope x = path(0, 1, 2, 3, 4, 5, 11, 17, 16, 15, 14, 13, 12, 18, 24, 25, 26, 27, 28, 29);
        DUE.is("P19 bound: 19 steps of the longest", x.bound(0, 29, 19), 0);
        DUE.is("P19 bound: 40 steps", x.bound(0, 29, 40), 0);
        DUE.holds("P19 bound: 18 steps are too few for it", x.bound(0, 29, 18) > 0);
    }

    // Promise 19: "of CELLS but the first one".
    private static void p19FirstOneDoesNotCount() {
        WhiteSlope x = new WhiteSlope();
        x.place(0, 0, 40, 0);
        DUE.is("P19 bound: RISK of the first one does not count", x.bound(0, 1, 40), 0);
        DUE.is("P19 bound: RISK of the last one does", x.bound(1, 0, 40), 22);
    }

    // Promise 20: "BAD".
    private static void p20Bad() {
        for (int cell : NO_CELLS) {
            Twins.refused(DUE, "P20 wall: BAD from " + cell, Due.BAD, x -> x.wall(cell, 3));
            Twins.refused(DUE, "P20 wall: BAD to " + cell, Due.BAD, x -> x.wall(3, cell));
        }
    }

    // Promise 20: from a CELL to itself: its own STEEP.
    private static void p20ToItself() {
        WhiteSlope x = path(3);
        DUE.is("P20 wall: to itself, flat", x.wall(3, 3), 10);
        DUE.is("P20 wall: to itself, steep", x.wall(29, 29), 40);
    }

    // Terms 3, WALL: "on CELLS (these two, too) that are t or less STEEP".
    private static void p20TheseTwoToo() {
        WhiteSlope x = new WhiteSlope();
        x.set(0, 0, 17);
        x.set(29, 0, 23);
        DUE.is("P20 wall: the first one, too", x.wall(0, 5), 17);
        DUE.is("P20 wall: the last one, too", x.wall(5, 0), 17);
        DUE.is("P20 wall: both", x.wall(0, 29), 23);
        DUE.is("P20 wall: both, the other way", x.wall(29, 0), 23);
    }

    // Promise 20: the least and the greatest that it can be.
    private static void p20Ends() {
        WhiteSlope x = new WhiteSlope();
        DUE.is("P20 wall: 0 on flat ground", x.wall(0, 29), 0);
        for (int cell = 2; cell < 30; cell += 6) {
            x.set(cell, 0, 60);
        }
        DUE.is("P20 wall: 60 across a whole COLUMN", x.wall(0, 29), 60);
        x.set(26, 0, 59);
        DUE.is("P20 wall: 59 by its top", x.wall(0, 29), 59);
        DUE.is("P20 wall: 0 on this side of it", x.wall(0, 25), 0);
    }

    // Promise 21: "BAD".
    private static void p21Bad() {
        for (int cell : NO_CELLS) {
            Twins.refused(DUE, "P21 reach: BAD cell " + cell, Due.BAD, x -> x.reach(cell, 3));
        }
        for (int r : new int[] {-1, 100000, Due.LOWEST, Due.HIGHEST}) {
            Twins.refused(DUE, "P21 reach: BAD r " + r, Due.BAD, x -> x.reach(3, r));
        }
    }

    // Promise 21: "r (0 .. 99999)".
    private static void p21Ends() {
        DUE.is("P21 reach: 0 on flat ground", new WhiteSlope().reach(0, 0), 30);
        DUE.is("P21 reach: 0 on risky ground", path().reach(0, 0), 1);
        DUE.is("P21 reach: 99999", path().reach(0, 99999), 30);
        DUE.is("P21 reach: 99999 from the last one", path().reach(29, 99999), 30);
    }

    // Terms 3, REACH: "with a RISK of r or less".
    private static void p21OrLess() {
        WhiteSlope x = path(0, 1);
        DUE.is("P21 reach: RISK 22 is more than 21", x.reach(0, 21), 2);
        DUE.is("P21 reach: RISK 22 is 22 or less", x.reach(0, 22), 30);
    }

    // Terms 3, REACH: "(it counts, too, whatever its RISK)".
    private static void p21ItCountsToo() {
        WhiteSlope x = path(0, 1, 29);
        DUE.is("P21 reach: from a risky one alone", x.reach(14, 0), 1);
        DUE.is("P21 reach: from a risky one on", x.reach(2, 0), 3);
        DUE.is("P21 reach: from a lone one", x.reach(29, 0), 1);
        DUE.is("P21 reach: it is not counted twice", x.reach(1, 0), 2);
    }

    // Promise 22: "BAD".
    private static void p22Bad() {
        int[][] bad = {{-1, 0, 0}, {101, 0, 0}, {Due.LOWEST, 0, 0}, {Due.HIGHEST, 0, 0}, {50, -1, 0}, {50, 13, 0},
            {50, Due.LOWEST, 0}, {50, Due.HIGHEST, 0}, {50, 0, -1}, {50, 0, 2}, {50, 0, Due.LOWEST},
            {50, 0, Due.HIGHEST}, {0, 13, 1}, {100, -1, 1}};
        for (int[] b : bad) {
            Twins.refused(DUE, "P22 odds: BAD " + b[0] + ", " + b[1] + ", " + b[2], Due.BAD,
                x -> x.odds(b[0], b[1], b[2]));
        }
        for (int m = 0; m <= 12; m++) {
            for (int p : new int[] {-1, -2, -50, 101, 150}) {
                DUE.is("P22 odds: BAD " + p + " behind " + m + ", above", new WhiteSlope().odds(p, m, 0), Due.BAD);
                DUE.is("P22 odds: BAD " + p + " behind " + m + ", below", new WhiteSlope().odds(p, m, 1), Due.BAD);
            }
        }
    }

    // Terms: "(Where a long is told, BAD is it, too.)"
    private static void p22BadIsALong() {
        long answer = new WhiteSlope().odds(-1, 0, 0);
        DUE.is("P22 odds: BAD as a long", answer, -1000000001L);
    }

    // Terms 3, ODDS: "(0 / 1 for 0)".
    private static void p22Zero() {
        for (int m = 0; m <= 12; m++) {
            DUE.is("P22 odds: 0 behind " + m + ", above", new WhiteSlope().odds(0, m, 0), 0);
            DUE.is("P22 odds: 0 behind " + m + ", below", new WhiteSlope().odds(0, m, 1), 1);
        }
    }

    // Promise 22: "p (0 .. 100)": a hundred hundredths are sure.
    private static void p22Hundred() {
        for (int m = 0; m <= 12; m++) {
            DUE.is("P22 odds: 100 behind " + m + ", above", new WhiteSlope().odds(100, m, 0), 1);
            DUE.is("P22 odds: 100 behind " + m + ", below", new WhiteSlope().odds(100, m, 1), 1);
        }
    }

    // Terms 3, ODDS: "in lowest terms".
    private static void p22LowestTerms() {
        int[][] odds = {{50, 0, 1, 2}, {25, 0, 1, 4}, {25, 1, 1, 2}, {40, 1, 2, 3}, {99, 0, 99, 100}, {1, 0, 1, 100},
            {97, 0, 97, 100}, {1, 1, 1, 34}, {10, 2, 1, 2}};
        for (int[] o : odds) {
            DUE.is("P22 odds: " + o[0] + " behind " + o[1] + ", above", new WhiteSlope().odds(o[0], o[1], 0), o[2]);
            DUE.is("P22 odds: " + o[0] + " behind " + o[1] + ", below", new WhiteSlope().odds(o[0], o[1], 1), o[3]);
        }
    }

    // Promise 22: "m (0 .. 12)": 3 to the 12 is 531441.
    private static void p22Most() {
        DUE.is("P22 odds: 1 behind 12, above", new WhiteSlope().odds(1, 12, 0), 59049);
        DUE.is("P22 odds: 1 behind 12, below", new WhiteSlope().odds(1, 12, 1), 59060);
        DUE.is("P22 odds: 99 behind 12, above", new WhiteSlope().odds(99, 12, 0), 52612659);
        DUE.is("P22 odds: 99 behind 12, below", new WhiteSlope().odds(99, 12, 1), 52612660);
    }
}
