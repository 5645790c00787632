/** Edges of Terms 1 and 3 and of the promises 13 to 17 (P13 to P17): no TRACK, a full one, refused calls. */
public final class TrackEdgesTest {
    private static final Due DUE = new Due("TrackEdgesTest");
    private static final int[] NO_CELLS = {-1, 30, 31, Due.LOWEST, Due.HIGHEST, Due.NONE};

    public static void main(String[] args) {
        t1BesideAsFarAsThereAre();
        t3StepIsHeld();
        t3StepTenthIsCut();
        t3StepUpAlone();
        t3TurnsNeedTwoSteps();
        t3TurnRound();
        p13FirstMayBeAny();
        p13Bad();
        p13No();
        p13Full();
        p13BadAheadOfNo();
        p13NoAheadOfFull();
        p14None();
        p14Full();
        p15Bad();
        p15None();
        p15Ends();
        p16Bad();
        p16BadAheadOfNone();
        p16None();
        p16One();
        p16FirstOneToo();
        p16Flat();
        p16Full();
        p16Wiped();
        p17Bad();
        p17Ends();
        p17AboveR();
        p17None();
        p17FirstOneToo();
        p17LastOfAFullTrack();
        DUE.end();
    }

    /** A TRACK of so many CELLS, to and fro between 0 and 1. */
    private static WhiteSlope tracked(int many) {
        WhiteSlope x = new WhiteSlope();
        for (int i = 0; i < many; i++) {
            x.track(i % 2);
        }
        return x;
    }

    /** A rich object has four CELLS, the last one 15; this fills its TRACK up to 24, the last one 15 again. */
    private static void fill(WhiteSlope x) {
        for (int i = 4; i < 24; i++) {
            DUE.is("the TRACK fills", x.track(i % 2 == 0 ? 14 : 15), i + 1);
        }
    }

    // Terms 1, BESIDE: "as far as there are such": no step goes round an end.
    private static void t1BesideAsFarAsThereAre() {
        int[][] round = {{5, 6}, {6, 5}, {11, 12}, {23, 24}, {0, 5}, {5, 0}, {0, 24}, {24, 0}, {29, 24}, {29, 5}, {4, 28}};
        for (int[] r : round) {
            DUE.is("T1 BESIDE: not " + r[0] + ", " + r[1], second(r[0], r[1]), Due.NO);
        }
        int[][] corners = {{0, 6}, {0, 1}, {5, 11}, {5, 4}, {24, 18}, {24, 25}, {29, 23}, {29, 28}};
        for (int[] c : corners) {
            DUE.is("T1 BESIDE: " + c[0] + ", " + c[1], second(c[0], c[1]), 2);
            DUE.is("T1 BESIDE: " + c[1] + ", " + c[0], second(c[1], c[0]), 2);
        }
    }

    private static int second(int cell, int next) {
        WhiteSlope x = new WhiteSlope();
        x.track(cell);
        return x.track(next);
    }

    // Terms 3, STEP: "what step gives, held within 0 .. 99".
    private static void t3StepIsHeld() {
        int[][] steps = {{0, 0}, {1, 1}, {98, 98}, {99, 99}, {100, 99}, {9999, 99}};
        for (int[] s : steps) {
            DUE.is("T3 STEP: step " + s[0] + " is held", breath("step " + s[0]), s[1]);
        }
        DUE.is("T3 STEP: step 0-1 is held", breath("step 0-1"), 0);
        DUE.is("T3 STEP: the lowest int is held", breath("step 8192*8192*32"), 0);
        DUE.is("T3 STEP: the highest int is held", breath("step 8192*8192*32-1"), 99);
    }

    private static int breath(String text) {
        WhiteSlope x = tracked(2);
        DUE.is("'" + text + "' is a TEXT", Due.text(x, text), 0);
        return x.along(1);
    }

    // Terms 3, STEP: "without a TEXT: 1 and STEEP / 10".
    private static void t3StepTenthIsCut() {
        int[][] steps = {{0, 1}, {9, 1}, {10, 2}, {19, 2}, {59, 6}, {60, 7}};
        for (int[] s : steps) {
            WhiteSlope x = tracked(2);
            x.set(1, 0, s[0]);
            DUE.is("T3 STEP: into STEEP " + s[0], x.along(1), s[1]);
        }
    }

    // Terms 3, STEP: "2 more, if it is of a higher ROW than the one ahead".
    private static void t3StepUpAlone() {
        int[][] steps = {{13, 19, 3}, {13, 14, 1}, {13, 7, 1}, {13, 12, 1}};
        for (int[] s : steps) {
            WhiteSlope x = new WhiteSlope();
            x.track(s[0]);
            x.track(s[1]);
            DUE.is("T3 STEP: from 13 to " + s[1], x.along(1), s[2]);
            Due.text(x, "step 40+u*7");
            DUE.is("T3 STEP: u from 13 to " + s[1], x.along(1), s[2] == 3 ? 47 : 40);
        }
    }

    // Terms 3, TURNS: "another direction than the step ahead": one step has none ahead.
    private static void t3TurnsNeedTwoSteps() {
        WhiteSlope x = new WhiteSlope();
        x.track(0);
        DUE.is("T3 TURNS: one CELL", x.along(2), 0);
        x.track(6);
        DUE.is("T3 TURNS: one step", x.along(2), 0);
        x.track(12);
        DUE.is("T3 TURNS: two steps on", x.along(2), 0);
        x.track(13);
        DUE.is("T3 TURNS: aside", x.along(2), 1);
        x.track(14);
        DUE.is("T3 TURNS: on aside", x.along(2), 1);
        x.track(8);
        DUE.is("T3 TURNS: down", x.along(2), 2);
    }

    // Terms 3, TURNS: to go back where one came from is another direction, each time.
    private static void t3TurnRound() {
        DUE.is("T3 TURNS: round once", tracked(3).along(2), 1);
        DUE.is("T3 TURNS: round in a full TRACK", tracked(24).along(2), 22);
    }

    // Promise 13: the first CELL is BESIDE nothing, and may be any.
    private static void p13FirstMayBeAny() {
        for (int cell = 0; cell < 30; cell++) {
            DUE.is("P13 track: first is " + cell, new WhiteSlope().track(cell), 1);
        }
    }

    // Promise 13: "BAD".
    private static void p13Bad() {
        for (int cell : NO_CELLS) {
            DUE.is("P13 track: BAD cell " + cell + " without a TRACK", new WhiteSlope().track(cell), Due.BAD);
            Twins.refused(DUE, "P13 track: BAD cell " + cell, Due.BAD, x -> x.track(cell));
        }
    }

    // Promise 13: "NO: it is not BESIDE the last one" (15, in a rich object).
    private static void p13No() {
        for (int cell = 0; cell < 30; cell++) {
            int to = cell;
            if (cell != 21 && cell != 16 && cell != 9 && cell != 14) {
                Twins.refused(DUE, "P13 track: NO, " + cell + " is not BESIDE 15", Due.NO, x -> x.track(to));
            }
        }
        DUE.is("P13 track: NO, a CELL is not BESIDE itself", second(4, 4), Due.NO);
    }

    // Promise 13: "FULL": "up to 24 CELLS".
    private static void p13Full() {
        for (int cell : new int[] {14, 9, 16, 21}) {
            Twins.refused(DUE, "P13 track: FULL, 24 and " + cell, Due.FULL, TrackEdgesTest::fill, x -> x.track(cell));
        }
        WhiteSlope x = tracked(23);
        DUE.is("P13 track: the 24th is taken", x.track(1), 24);
        DUE.is("P13 track: the 25th is not", x.track(0), Due.FULL);
        DUE.is("P13 track: nor again", x.track(0), Due.FULL);
    }

    // Promise 13: BAD stands ahead of NO and of FULL.
    private static void p13BadAheadOfNo() {
        DUE.is("P13 track: BAD goes ahead of NO", second(15, 30), Due.BAD);
        DUE.is("P13 track: BAD goes ahead of FULL", tracked(24).track(-1), Due.BAD);
    }

    // Promise 13: NO stands ahead of FULL.
    private static void p13NoAheadOfFull() {
        Twins.refused(DUE, "P13 track: NO goes ahead of FULL", Due.NO, TrackEdgesTest::fill, x -> x.track(3));
        DUE.is("P13 track: NO for the last one itself, in a full TRACK", tracked(24).track(1), Due.NO);
    }

    // Promise 14: a TRACK that has none.
    private static void p14None() {
        WhiteSlope x = new WhiteSlope();
        DUE.is("P14 wipe: none", x.wipe(), 0);
        x.track(3);
        DUE.is("P14 wipe: one", x.wipe(), 1);
        DUE.is("P14 wipe: none again", x.wipe(), 0);
        DUE.is("P14 wipe: count", x.count(5), 0);
    }

    // Promise 14: a full TRACK; it can be filled again.
    private static void p14Full() {
        WhiteSlope x = tracked(24);
        DUE.is("P14 wipe: a full one", x.wipe(), 24);
        DUE.is("P14 wipe: no CELL is left", x.at(0), Due.NONE);
        DUE.is("P14 wipe: the next one is the first, and may be any", x.track(29), 1);
        DUE.is("P14 wipe: it is that one", x.at(0), 29);
        DUE.is("P14 wipe: old ones are gone", x.at(1), Due.NONE);
    }

    // Promise 15: "BAD: below 0".
    private static void p15Bad() {
        for (int i : new int[] {-1, -2, Due.LOWEST, Due.NONE}) {
            DUE.is("P15 at: BAD " + i + " without a TRACK", new WhiteSlope().at(i), Due.BAD);
            Twins.refused(DUE, "P15 at: BAD " + i, Due.BAD, x -> x.at(i));
        }
    }

    // Promise 15: "NONE": there is no such CELL, however large i is.
    private static void p15None() {
        for (int i : new int[] {4, 5, 23, 24, 25, 30, Due.HIGHEST}) {
            DUE.is("P15 at: NONE " + i + " without a TRACK", new WhiteSlope().at(i), Due.NONE);
            Twins.refused(DUE, "P15 at: NONE " + i, Due.NONE, x -> x.at(i));
        }
        DUE.is("P15 at: NONE 0 without a TRACK", new WhiteSlope().at(0), Due.NONE);
        DUE.is("P15 at: NONE 24 in a full TRACK", tracked(24).at(24), Due.NONE);
    }

    // Promise 15: "from 0 on", to the last one.
    private static void p15Ends() {
        DUE.is("P15 at: the only one", tracked(1).at(0), 0);
        DUE.is("P15 at: the first of 24", tracked(24).at(0), 0);
        DUE.is("P15 at: the last of 24", tracked(24).at(23), 1);
    }

    // Promise 16: "BAD".
    private static void p16Bad() {
        for (int what : new int[] {-1, 5, 6, Due.LOWEST, Due.HIGHEST}) {
            Twins.refused(DUE, "P16 along: BAD what " + what, Due.BAD, x -> x.along(what));
        }
    }

    // Promise 16: BAD stands ahead of NONE.
    private static void p16BadAheadOfNone() {
        DUE.is("P16 along: BAD what 5 without a TRACK", new WhiteSlope().along(5), Due.BAD);
        DUE.is("P16 along: BAD what -1 without a TRACK", new WhiteSlope().along(-1), Due.BAD);
    }

    // Promise 16: "NONE: it has none".
    private static void p16None() {
        for (int what = 0; what < 5; what++) {
            int asked = what;
            DUE.is("P16 along: NONE " + what + " of a new one", new WhiteSlope().along(what), Due.NONE);
            Twins.refused(DUE, "P16 along: NONE " + what, Due.NONE, WhiteSlope::wipe, x -> x.along(asked));
        }
    }

    // Promise 16 and Terms 3: "all its CELLS but the first one": with one CELL there is none.
    private static void p16One() {
        WhiteSlope x = new WhiteSlope();
        x.place(8, 0, 50, 90);
        x.track(8);
        int[] want = {0, 0, 0, 50, 51};
        for (int what = 0; what < 5; what++) {
            DUE.is("P16 along: one CELL, what " + what, x.along(what), want[what]);
        }
    }

    // Promise 16: "the greatest RISK of one of its CELLS (the first, too)"; STEEP likewise, and of the last one.
    private static void p16FirstOneToo() {
        for (int most : new int[] {0, 1, 2}) {
            WhiteSlope x = new WhiteSlope();
            for (int i = 0; i < 3; i++) {
                x.place(i, 0, i == most ? 45 : 31, 0);
                x.track(i);
            }
            DUE.is("P16 along: RISK without the first, most at " + most, x.along(0), most == 0 ? 8 : 36);
            DUE.is("P16 along: greatest STEEP at " + most, x.along(3), 45);
            DUE.is("P16 along: greatest RISK at " + most, x.along(4), 32);
        }
    }

    // Promise 16: nothing STEEP, no RISK.
    private static void p16Flat() {
        WhiteSlope x = tracked(2);
        DUE.is("P16 along: flat, the greatest STEEP", x.along(3), 0);
        DUE.is("P16 along: flat, the greatest RISK", x.along(4), 0);
        DUE.is("P16 along: flat, RISK", x.along(0), 0);
    }

    // Promise 16: all of a full TRACK, with the greatest numbers there are.
    private static void p16Full() {
        WhiteSlope x = tracked(24);
        Due.text(x, "risk 999");
        Due.text(x, "step 99");
        x.place(0, 3, 60, 0);
        x.place(1, 3, 60, 0);
        int[] want = {23 * 2996, 23 * 99, 22, 60, 2996};
        for (int what = 0; what < 5; what++) {
            DUE.is("P16 along: 24 CELLS, what " + what, x.along(what), want[what]);
        }
    }

    // Promises 14 and 16: what was wiped counts no more.
    private static void p16Wiped() {
        WhiteSlope x = tracked(24);
        x.place(1, 0, 60, 999);
        x.wipe();
        x.track(0);
        for (int what = 0; what < 5; what++) {
            DUE.is("P16 along: wiped CELLS, what " + what, x.along(what), 0);
        }
        DUE.is("P17 turnBack: wiped CELLS", x.turnBack(0), Due.NONE);
    }

    // Promise 17: "BAD".
    private static void p17Bad() {
        for (int r : new int[] {-1, 100000, Due.LOWEST, Due.HIGHEST}) {
            DUE.is("P17 turnBack: BAD " + r + " without a TRACK", new WhiteSlope().turnBack(r), Due.BAD);
            Twins.refused(DUE, "P17 turnBack: BAD " + r, Due.BAD, x -> x.turnBack(r));
        }
    }

    // Promise 17: "r (0 .. 99999)".
    private static void p17Ends() {
        WhiteSlope x = tracked(2);
        DUE.is("P17 turnBack: 0, no RISK is not above it", x.turnBack(0), Due.NONE);
        DUE.is("P17 turnBack: 99999", x.turnBack(99999), Due.NONE);
        Due.text(x, "risk 999");
        x.turns(1, 3);
        DUE.is("P17 turnBack: 2995, the greatest RISK is above it", x.turnBack(2995), 1);
        DUE.is("P17 turnBack: 2996, it is not", x.turnBack(2996), Due.NONE);
    }

    // Promise 17: "with a RISK above r".
    private static void p17AboveR() {
        WhiteSlope x = tracked(2);
        x.place(1, 0, 34, 0);
        DUE.is("P17 turnBack: 10 is above 9", x.turnBack(9), 1);
        DUE.is("P17 turnBack: 10 is not above 10", x.turnBack(10), Due.NONE);
        DUE.is("P17 turnBack: 10 is not above 11", x.turnBack(11), Due.NONE);
    }

    // Promise 17: "NONE".
    private static void p17None() {
        WhiteSlope x = new WhiteSlope();
        Due.text(x, "risk 999");
        DUE.is("P17 turnBack: NONE without a TRACK", x.turnBack(0), Due.NONE);
        Twins.refused(DUE, "P17 turnBack: NONE", Due.NONE, y -> y.turnBack(99999));
    }

    // Promise 17: "(THE TRACK's first, too)", and the first of several.
    private static void p17FirstOneToo() {
        WhiteSlope x = tracked(5);
        x.place(0, 0, 34, 0);
        DUE.is("P17 turnBack: the TRACK's first", x.turnBack(0), 0);
        x.place(0, 0, 0, 0);
        x.place(1, 0, 34, 0);
        DUE.is("P17 turnBack: the first of two", x.turnBack(0), 1);
    }

    // Promise 17: the last CELL of a full TRACK.
    private static void p17LastOfAFullTrack() {
        WhiteSlope x = tracked(23);
        x.track(6);
        x.place(6, 0, 34, 0);
        DUE.is("P17 turnBack: the 24th", x.turnBack(0), 23);
    }
}
