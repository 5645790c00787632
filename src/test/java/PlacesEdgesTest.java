/** Edges of Terms 1 and of the promises 1 to 9 (P1 to P9): too small, too large, none, refused calls. */
public final class PlacesEdgesTest {
    private static final Due DUE = new Due("PlacesEdgesTest");
    private static final int[] NO_CELLS = {-1, 30, 31, Due.LOWEST, Due.HIGHEST, Due.NONE};
    private static final int[] NO_KINDS = {-1, 6, 7, Due.LOWEST, Due.HIGHEST, Due.NONE};

    public static void main(String[] args) {
        t1CellsHaveEnds();
        t1SunIsZeroAtLeast();
        t1RiskBelow30();
        t1RiskTenthsAreCut();
        t1RiskIsHeld();
        t1RiskIsHeldWhenIntsWrap();
        t1AboveIsNoneAtTheTop();
        t1AboveIsTheGreatest();
        t1AboveIsPlain();
        t1RisksOfKindsAreCut();
        t1RiskOfKindsIsNotHeld();
        t1HoldIsHeld();
        t1HoldAloneIsHeld();
        t1HoldOfKindsNotNamed();
        t1HoldByRow();
        t1WorthAtItsEnds();
        p1New();
        p1NewHasNoTrackTextImage();
        p1NewSheetsAndSlots();
        p2Ends();
        p2Bad();
        p3Ends();
        p3Bad();
        p4Bad();
        p4BadAheadOfKind();
        p4Kind();
        p5Ends();
        p5Bad();
        p6Ends();
        p6Bad();
        p7Ends();
        p7Bad();
        p8Ends();
        p8LeavesTheRest();
        p9AnyInt();
        DUE.end();
    }

    private static WhiteSlope withText(String text) {
        WhiteSlope x = new WhiteSlope();
        DUE.is("'" + text + "' is a TEXT", Due.text(x, text), 0);
        return x;
    }

    // Terms 1: "CELLS are 0 .. 29".
    private static void t1CellsHaveEnds() {
        WhiteSlope x = new WhiteSlope();
        for (int cell = 0; cell < 30; cell++) {
            DUE.is("T1 cells: " + cell + " is one", x.set(cell, 1, cell + 1), 0);
        }
        DUE.is("T1 cells: 0 .. 29 are all there are", x.count(0), 465);
    }

    // Terms 1: "SUN: HOUR less 9 (0 at least)".
    private static void t1SunIsZeroAtLeast() {
        WhiteSlope x = new WhiteSlope();
        x.place(3, 4, 0, 0);
        int[][] suns = {{0, 0}, {8, 0}, {9, 0}, {10, 1}, {23, 14}};
        for (int[] s : suns) {
            x.today(1, s[0]);
            DUE.is("T1 SUN at HOUR " + s[0] + ": RISK of SUNNED", x.told(3, 5), s[1]);
            DUE.is("T1 SUN at HOUR " + s[0] + ": HOLD of SUNNED", x.told(3, 6), 75 - s[1]);
        }
    }

    // Terms 1, PLAIN RISK: "0, if STEEP is below 30; else both together: STEEP less 29, times DANGER; LOAD / 10".
    private static void t1RiskBelow30() {
        WhiteSlope x = new WhiteSlope();
        x.place(4, 0, 29, 999);
        DUE.is("T1 PLAIN RISK: STEEP 29 is below 30", x.told(4, 3), 0);
        x.set(4, 0, 30);
        DUE.is("T1 PLAIN RISK: STEEP 30 is not", x.told(4, 3), 2 + 99);
        x.set(4, 0, 60);
        x.today(0, 5);
        DUE.is("T1 PLAIN RISK: the greatest without a TEXT", x.told(4, 3), 31 * 5 + 99);
        x.today(0, 0);
        DUE.is("T1 PLAIN RISK: DANGER 0 leaves LOAD / 10", x.told(4, 3), 99);
    }

    // Terms: "/ cuts towards 0", for LOAD / 10.
    private static void t1RiskTenthsAreCut() {
        WhiteSlope x = new WhiteSlope();
        x.today(0, 0);
        int[][] tenths = {{0, 0}, {9, 0}, {10, 1}, {19, 1}, {20, 2}, {989, 98}, {990, 99}};
        for (int[] t : tenths) {
            x.place(0, 0, 30, t[0]);
            DUE.is("T1 PLAIN RISK: LOAD " + t[0] + " / 10 is cut", x.told(0, 3), t[1]);
        }
    }

    // Terms 1, PLAIN RISK: "what risk gives, held within 0 .. 999".
    private static void t1RiskIsHeld() {
        int[][] rows = {{0, 0}, {1, 1}, {998, 998}, {999, 999}, {1000, 999}, {9999, 999}};
        for (int[] r : rows) {
            DUE.is("T1 PLAIN RISK: risk " + r[0] + " is held", withText("risk " + r[0]).told(0, 3), r[1]);
        }
        DUE.is("T1 PLAIN RISK: risk 0-1 is held", withText("risk 0-1").told(0, 3), 0);
    }

    // Terms 1 and 4: what is held is what the ints wrapped to.
    private static void t1RiskIsHeldWhenIntsWrap() {
        // 8192 * 8192 * 32 is 2 to the 31.
        DUE.is("T1 PLAIN RISK: the lowest int is held", withText("risk 8192*8192*32").told(0, 3), 0);
        DUE.is("T1 PLAIN RISK: the highest int is held", withText("risk 8192*8192*32-1").told(0, 3), 999);
    }

    // Terms 1, ABOVE: "(0, if there is none)".
    private static void t1AboveIsNoneAtTheTop() {
        WhiteSlope x = withText("risk 500");
        for (int cell = 0; cell < 30; cell++) {
            DUE.is("T1 ABOVE: CELL " + cell, x.told(cell, 4), cell < 24 ? 500 : 0);
        }
    }

    // Terms 1, ABOVE: "the greatest PLAIN RISK of all CELLS above it in its COLUMN".
    private static void t1AboveIsTheGreatest() {
        WhiteSlope x = withText("risk l");
        int[] loads = {900, 20, 400, 30, 5};
        for (int row = 0; row < 5; row++) {
            x.set(row * 6 + 5, 1, loads[row]);
            x.set(row * 6 + 4, 1, 999);
        }
        int[] above = {400, 400, 30, 5, 0};
        for (int row = 0; row < 5; row++) {
            DUE.is("T1 ABOVE: the greatest above ROW " + row, x.told(row * 6 + 5, 4), above[row]);
        }
        DUE.is("T1 ABOVE: of the first COLUMN nothing comes from the last one", x.told(0, 4), 0);
    }

    // Terms 1, ABOVE is of PLAIN RISKS, whatever KINDS stand there.
    private static void t1AboveIsPlain() {
        WhiteSlope x = withText("risk 90");
        for (int kind = 0; kind < 6; kind++) {
            for (int cell = 6; cell < 30; cell += 6) {
                x.turns(cell, kind);
            }
            DUE.is("T1 ABOVE: PLAIN, beneath KIND " + kind, x.told(0, 4), 90);
        }
    }

    // Terms 1, RISK: "ABOVE / 2", "half (cut)", "a third (cut)".
    private static void t1RisksOfKindsAreCut() {
        WhiteSlope x = withText("risk l");
        x.today(1, 23);
        x.set(6, 1, 3);
        int[] of5 = {5, 6, 2, 12, 16, 1};
        int[] of0 = {0, 1, 0, 2, 14, 0};
        for (int kind = 0; kind < 6; kind++) {
            x.place(0, kind, 0, 5);
            DUE.is("T1 RISK: of 5 beneath 3, KIND " + kind, x.told(0, 5), of5[kind]);
            x.set(0, 1, 0);
            DUE.is("T1 RISK: of 0 beneath 3, KIND " + kind, x.told(0, 5), of0[kind]);
        }
    }

    // Terms 1: only PLAIN RISK is held within 999, not what the KINDS make of it.
    private static void t1RiskOfKindsIsNotHeld() {
        WhiteSlope x = withText("risk 9999");
        x.today(1, 23);
        int[] risks = {999, 999 + 499, 499, 2 * (999 + 499), 499 + 14, 333};
        for (int kind = 0; kind < 6; kind++) {
            x.turns(0, kind);
            DUE.is("T1 RISK: of 999 beneath 999, KIND " + kind, x.told(0, 5), risks[kind]);
        }
    }

    // Terms 1, HOLD: "what hold gives, held within 0 .. 99"; "without a TEXT: 70 less STEEP".
    private static void t1HoldIsHeld() {
        int[][] rows = {{0, 0}, {1, 1}, {98, 98}, {99, 99}, {100, 99}, {9999, 99}};
        for (int[] r : rows) {
            DUE.is("T1 HOLD: hold " + r[0] + " is held", withText("hold " + r[0]).told(0, 6), r[1]);
        }
        DUE.is("T1 HOLD: hold 0-1 is held", withText("hold 0-1").told(0, 6), 0);
        DUE.is("T1 HOLD: the lowest int is held", withText("hold 8192*8192*32").told(0, 6), 0);
        DUE.is("T1 HOLD: the highest int is held", withText("hold 8192*8192*32-1").told(0, 6), 99);
        WhiteSlope x = new WhiteSlope();
        x.set(0, 0, 60);
        DUE.is("T1 HOLD: without a TEXT, STEEP 60", x.told(0, 6), 10);
        DUE.is("T1 HOLD: without a TEXT, STEEP 0", x.told(1, 6), 70);
    }

    // Terms 1, HOLD: "(that alone is held; ..)".
    private static void t1HoldAloneIsHeld() {
        WhiteSlope x = withText("hold 100");
        x.today(1, 23);
        int[] most = {99, 99, 104, 99, 104 - 14, 119};
        int[] least = {0, 0, 5, 0, 5 - 14, 20};
        for (int kind = 0; kind < 6; kind++) {
            x.turns(9, kind);
            DUE.is("T1 HOLD: 99 is the most as PLACE alone, KIND " + kind, x.told(9, 6), most[kind]);
        }
        Due.text(x, "hold 0-9");
        for (int kind = 0; kind < 6; kind++) {
            x.turns(9, kind);
            DUE.is("T1 HOLD: 0 is the least as PLACE alone, KIND " + kind, x.told(9, 6), least[kind]);
        }
    }

    // Terms 1: "(A KIND that is not named does as the one above it.)"
    private static void t1HoldOfKindsNotNamed() {
        WhiteSlope x = new WhiteSlope();
        x.place(2, 1, 33, 0);
        DUE.is("T1 HOLD: BENEATH is not named, as PLACE", x.told(2, 6), 37);
        x.turns(2, 3);
        DUE.is("T1 HOLD: TRAPPED is not named, as BENEATH", x.told(2, 6), 37);
    }

    // Terms 1 and 4: "CELL 6 times the ROW (0 .. 4, 0 is the lowest) and the COLUMN", seen by hold's r.
    private static void t1HoldByRow() {
        WhiteSlope x = withText("hold r*9+s");
        for (int cell = 0; cell < 30; cell++) {
            DUE.is("T1 ROW: of CELL " + cell, x.told(cell, 6), cell / 6 * 9);
        }
    }

    // Terms 1, WORTH, with STEEP and LOAD at their ends.
    private static void t1WorthAtItsEnds() {
        WhiteSlope x = new WhiteSlope();
        int[] most = {60, 1059, 0, 2118, 9, 999};
        int[] least = {0, 0, 60, 0, 69, 0};
        for (int kind = 0; kind < 6; kind++) {
            x.place(29, kind, 60, 999);
            DUE.is("T1 WORTH: STEEP 60, LOAD 999, KIND " + kind, x.told(29, 7), most[kind]);
            x.place(29, kind, 0, 0);
            DUE.is("T1 WORTH: STEEP 0, LOAD 0, KIND " + kind, x.told(29, 7), least[kind]);
        }
    }

    // Promise 1: "As told": what is told to be at first.
    private static void p1New() {
        WhiteSlope x = new WhiteSlope();
        int[] first = {0, 0, 2, 6, 3, 0, 0, 0, 0, 1};
        for (int what = 0; what < 10; what++) {
            DUE.is("P1 new: count(" + what + ")", x.count(what), first[what]);
        }
        for (int cell = 0; cell < 30; cell++) {
            DUE.is("P1 new: KIND of " + cell, x.told(cell, 0), 0);
            DUE.is("P1 new: STEEP of " + cell, x.told(cell, 1), 0);
            DUE.is("P1 new: LOAD of " + cell, x.told(cell, 2), 0);
        }
    }

    // Promise 1: no TRACK, no TEXT, no IMAGE, no tape, no numbers at first.
    private static void p1NewHasNoTrackTextImage() {
        WhiteSlope x = new WhiteSlope();
        DUE.is("P1 new: the TRACK is empty", x.at(0), Due.NONE);
        DUE.is("P1 new: wipe of none", x.wipe(), 0);
        for (int key = 0; key < 3; key++) {
            DUE.is("P1 new: no TEXT of KEY " + key, x.why(key), Due.NONE);
        }
        DUE.is("P1 new: no TEXT 0", x.textTold(0, 0), Due.BAD);
        DUE.is("P1 new: the tape is empty", x.trim(1), Due.BAD);
        DUE.is("P1 new: no IMAGE to go back to", x.back(), Due.NO);
        DUE.is("P1 new: no IMAGE to check by", x.check(1), Due.NO);
        DUE.is("P1 new: no number waits", x.tell(0), 1);
    }

    // Promise 1: SHEETS are MISSING, SLOTS hold nothing at first.
    private static void p1NewSheetsAndSlots() {
        WhiteSlope x = new WhiteSlope();
        for (int sheet = 0; sheet < 4; sheet++) {
            DUE.is("P1 new: SHEET " + sheet + " is MISSING", x.reads(sheet), Due.NOTHING);
        }
        for (int slot = 0; slot < 5; slot++) {
            DUE.is("P1 new: SLOT " + slot + " holds nothing", x.rest(slot, 1), Due.NOTHING);
            DUE.is("P1 new: SLOT " + slot + " held 0", x.lay(slot, 3, 1), 0);
        }
    }

    // Promise 2: the ends of each number are taken.
    private static void p2Ends() {
        WhiteSlope x = new WhiteSlope();
        int[][] ends = {{0, 0, 0, 0}, {29, 5, 60, 999}, {0, 5, 0, 999}, {29, 0, 60, 0}};
        for (int[] e : ends) {
            int was = x.told(e[0], 0);
            DUE.is("P2 place: ends are taken, CELL " + e[0], x.place(e[0], e[1], e[2], e[3]), was);
            for (int what = 0; what < 3; what++) {
                DUE.is("P2 place: told " + what + " of CELL " + e[0], x.told(e[0], what), e[what + 1]);
            }
        }
    }

    // Promise 2: "BAD".
    private static void p2Bad() {
        for (int cell : NO_CELLS) {
            Twins.refused(DUE, "P2 place: BAD cell " + cell, Due.BAD, x -> x.place(cell, 1, 2, 3));
        }
        for (int kind : NO_KINDS) {
            Twins.refused(DUE, "P2 place: BAD kind " + kind, Due.BAD, x -> x.place(9, kind, 2, 3));
        }
        for (int steep : new int[] {-1, 61, Due.LOWEST, Due.HIGHEST}) {
            Twins.refused(DUE, "P2 place: BAD steep " + steep, Due.BAD, x -> x.place(9, 1, steep, 3));
        }
        for (int load : new int[] {-1, 1000, Due.LOWEST, Due.HIGHEST}) {
            Twins.refused(DUE, "P2 place: BAD load " + load, Due.BAD, x -> x.place(9, 1, 2, load));
        }
    }

    // Promise 3: what 0 and what 7 are told.
    private static void p3Ends() {
        WhiteSlope x = new WhiteSlope();
        x.place(29, 5, 31, 12);
        DUE.is("P3 told: what 0 of CELL 29", x.told(29, 0), 5);
        DUE.is("P3 told: what 7 of CELL 29", x.told(29, 7), 12);
        DUE.is("P3 told: what 7 of CELL 0", x.told(0, 7), 0);
    }

    // Promise 3: "BAD".
    private static void p3Bad() {
        for (int cell : NO_CELLS) {
            Twins.refused(DUE, "P3 told: BAD cell " + cell, Due.BAD, x -> x.told(cell, 0));
        }
        for (int what : new int[] {-1, 8, Due.LOWEST, Due.HIGHEST}) {
            Twins.refused(DUE, "P3 told: BAD what " + what, Due.BAD, x -> x.told(0, what));
        }
    }

    // Promise 4: "BAD: cell, kind".
    private static void p4Bad() {
        for (int cell : NO_CELLS) {
            Twins.refused(DUE, "P4 as: BAD cell " + cell, Due.BAD, x -> x.as(cell, 0));
        }
        for (int kind : NO_KINDS) {
            Twins.refused(DUE, "P4 as: BAD kind " + kind, Due.BAD, x -> x.as(0, kind));
        }
    }

    // Promise 4: BAD stands ahead of KIND.
    private static void p4BadAheadOfKind() {
        WhiteSlope x = new WhiteSlope();
        DUE.is("P4 as: BAD cell goes ahead of KIND", x.as(30, 5), Due.BAD);
        DUE.is("P4 as: BAD kind goes ahead of KIND", x.as(0, 6), Due.BAD);
    }

    // Promise 4: "KIND: it is not of that KIND, nor of one under it".
    private static void p4Kind() {
        String[] under = {"100000", "110000", "101000", "110100", "101010", "100001"};
        for (int kind = 0; kind < 6; kind++) {
            for (int asked = 0; asked < 6; asked++) {
                int of = kind;
                int as = asked;
                boolean is = under[kind].charAt(asked) == '1';
                Twins.refused(DUE, "P4 as: KIND " + kind + " as " + asked, is ? 44 : Due.KIND,
                    x -> x.place(29, of, 44, 5), x -> x.as(29, as));
            }
        }
    }

    // Promise 5: "(perhaps the same)", and the last KIND and CELL.
    private static void p5Ends() {
        WhiteSlope x = new WhiteSlope();
        DUE.is("P5 turns: to KIND 5 at CELL 29", x.turns(29, 5), 0);
        DUE.is("P5 turns: to the same", x.turns(29, 5), 5);
        DUE.is("P5 turns: it is of it still", x.turns(29, 0), 5);
        DUE.is("P5 turns: CELL 0", x.turns(0, 0), 0);
    }

    // Promise 5: "BAD".
    private static void p5Bad() {
        for (int cell : NO_CELLS) {
            Twins.refused(DUE, "P5 turns: BAD cell " + cell, Due.BAD, x -> x.turns(cell, 1));
        }
        for (int kind : NO_KINDS) {
            Twins.refused(DUE, "P5 turns: BAD kind " + kind, Due.BAD, x -> x.turns(9, kind));
        }
    }

    // Promise 6: STEEP 0 .. 60, LOAD 0 .. 999 are taken at their ends.
    private static void p6Ends() {
        WhiteSlope x = new WhiteSlope();
        DUE.is("P6 set: STEEP 60", x.set(29, 0, 60), 0);
        DUE.is("P6 set: STEEP 0", x.set(29, 0, 0), 60);
        DUE.is("P6 set: LOAD 999", x.set(29, 1, 999), 0);
        DUE.is("P6 set: LOAD 61, more than a STEEP can be", x.set(29, 1, 61), 999);
        DUE.is("P6 set: LOAD 0", x.set(29, 1, 0), 61);
    }

    // Promise 6: "BAD".
    private static void p6Bad() {
        for (int cell : NO_CELLS) {
            Twins.refused(DUE, "P6 set: BAD cell " + cell, Due.BAD, x -> x.set(cell, 0, 1));
            Twins.refused(DUE, "P6 set: BAD cell for LOAD " + cell, Due.BAD, x -> x.set(cell, 1, 1));
        }
        for (int what : new int[] {-1, 2, Due.LOWEST, Due.HIGHEST}) {
            Twins.refused(DUE, "P6 set: BAD what " + what, Due.BAD, x -> x.set(9, what, 1));
        }
        for (int v : new int[] {-1, 61, 999, Due.LOWEST, Due.HIGHEST}) {
            Twins.refused(DUE, "P6 set: BAD STEEP " + v, Due.BAD, x -> x.set(9, 0, v));
        }
        for (int v : new int[] {-1, 1000, Due.LOWEST, Due.HIGHEST}) {
            Twins.refused(DUE, "P6 set: BAD LOAD " + v, Due.BAD, x -> x.set(9, 1, v));
        }
    }

    // Promise 7: DANGER 0 .. 5, HOUR 0 .. 23, FALL 0 .. 9 are taken at their ends.
    private static void p7Ends() {
        WhiteSlope x = new WhiteSlope();
        int[] first = {2, 6, 3};
        int[] most = {5, 23, 9};
        for (int what = 0; what < 3; what++) {
            DUE.is("P7 today: " + what + " becomes its most", x.today(what, most[what]), first[what]);
            DUE.is("P7 today: " + what + " becomes 0", x.today(what, 0), most[what]);
            DUE.is("P7 today: " + what + " is 0", x.count(2 + what), 0);
        }
    }

    // Promise 7: "BAD".
    private static void p7Bad() {
        int[][] bad = {{-1, 0}, {3, 0}, {Due.LOWEST, 0}, {Due.HIGHEST, 0}, {0, -1}, {0, 6}, {0, Due.LOWEST},
            {0, Due.HIGHEST}, {1, -1}, {1, 24}, {1, Due.LOWEST}, {1, Due.HIGHEST}, {2, -1}, {2, 10}, {2, Due.LOWEST},
            {2, Due.HIGHEST}};
        for (int[] b : bad) {
            Twins.refused(DUE, "P7 today: BAD what " + b[0] + ", v " + b[1], Due.BAD, x -> x.today(b[0], b[1]));
        }
    }

    // Promise 8, Terms 2: rests by 6, 50, 40 of draws z >>> 8, where z may be below 0 and wraps.
    private static void p8Ends() {
        int[] seeds = {0, -1, Due.LOWEST, Due.HIGHEST, 1 << 30, -1103515245};
        for (int seed : seeds) {
            WhiteSlope x = new WhiteSlope();
            x.seed(seed);
            long z = seed;
            int all = 0;
            int given = x.deal();
            for (int i = 0; i < 90; i++) {
                // Worked out without a wrap: the rest by 2 to the 32.
                z = Math.floorMod(z * 1103515245L + 12345L, 1L << 32);
                long rest = z / 256 % new int[] {6, 50, 40}[i % 3];
                DUE.is("P8 deal: seed " + seed + ", draw " + i, x.told(i / 3, i % 3), rest);
                all += i % 3 == 2 ? (int) rest : 0;
            }
            DUE.is("P8 deal: seed " + seed + ", all LOAD", given, all);
            DUE.is("P8 deal: seed " + seed + ", z wraps", x.count(9), (int) z);
        }
    }

    // Promise 8: a MOUNTAIN is drawn, and nothing else changes.
    private static void p8LeavesTheRest() {
        WhiteSlope x = new WhiteSlope();
        x.today(0, 1);
        x.today(1, 23);
        x.today(2, 9);
        Due.text(x, "risk s");
        x.track(5);
        x.deal();
        int[] want = {1, 23, 9, 1, 1};
        int[] what = {2, 3, 4, 5, 6};
        for (int i = 0; i < 5; i++) {
            DUE.is("P8 deal: count(" + what[i] + ") stays", x.count(what[i]), want[i]);
        }
        DUE.is("P8 deal: SLID stays", x.count(1), 0);
    }

    // Promise 9: z is an int, any of them.
    private static void p9AnyInt() {
        WhiteSlope x = new WhiteSlope();
        int was = 1;
        for (int v : new int[] {0, -1, Due.LOWEST, Due.HIGHEST, Due.BAD, Due.NONE}) {
            DUE.is("P9 seed: " + v + " is taken", x.seed(v), was);
            DUE.is("P9 seed: " + v + " is told", x.count(9), v);
            was = v;
        }
    }
}
