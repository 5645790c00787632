/** Promises 18 to 22: ways. */
public final class WaysTest {
    private static final Due DUE = new Due("WaysTest");

    public static void main(String[] args) {
        way();
        wayOrder();
        wayBad();
        bound();
        wall();
        reach();
        odds();
        DUE.end();
    }

    /** Steep ground all over but for a flat path; its CELLS from the first to the last one. */
    private static WhiteSlope pathOf(int... cells) {
        WhiteSlope x = new WhiteSlope();
        for (int cell = 0; cell < 30; cell++) {
            x.place(cell, 0, 40, 0);
        }
        for (int cell : cells) {
            x.place(cell, 0, 10, 0);
        }
        return x;
    }

    private static void way() {
        int[] path = {0, 6, 12, 13, 14, 8, 2, 3, 4, 10, 16, 22, 23, 29};
        WhiteSlope x = pathOf(path);
        DUE.is("RISKS", x.way(0, 29, 0), 0);
        DUE.is("steps", x.way(0, 29, 1), 13);
        int breath = 0;
        for (int i = 0; i < path.length; i++) {
            DUE.is("CELL " + i, x.way(0, 29, 10 + i), path[i]);
            DUE.is("CELL " + i + " the other way", x.way(29, 0, 10 + i), path[13 - i]);
            breath += i > 0 ? path[i] > path[i - 1] + 1 ? 4 : 2 : 0;
        }
        DUE.is("STEPS together", x.way(0, 29, 2), breath);
        DUE.is("none behind the last one", x.way(0, 29, 24), Due.NONE);
        DUE.is("the greatest what", x.way(0, 29, Due.HIGHEST), Due.NONE);
        x.place(29, 0, 35, 0);
        DUE.is("RISK of the last one counts", x.way(0, 29, 0), 12);
        DUE.is("RISK of the first one does not", x.way(29, 0, 0), 0);
        x.place(2, 0, 31, 0);
        DUE.is("a RISK is taken, if it is less than all others", x.way(0, 29, 0), 12 + 4);
        DUE.is("a way to the same CELL: RISKS", x.way(7, 7, 0), 0);
        DUE.is("a way to the same CELL: steps", x.way(7, 7, 1), 0);
        DUE.is("a way to the same CELL: STEPS", x.way(7, 7, 2), 0);
        DUE.is("a way to the same CELL: itself", x.way(7, 7, 10), 7);
        DUE.is("a way to the same CELL: no more", x.way(7, 7, 11), Due.NONE);
        Due.text(x, "step 3+u");
        DUE.is("STEPS by step", x.way(0, 29, 2), 13 * 3 + 6);
    }

    private static void wayOrder() {
        WhiteSlope x = new WhiteSlope();
        int[] upFirst = {0, 6, 12, 13, 14};
        int[] nextFirst = {12, 13, 14, 8, 2};
        int[] downFirst = {14, 8, 2, 1, 0};
        for (int i = 0; i < 5; i++) {
            DUE.is("up ahead of aside", x.way(0, 14, 10 + i), upFirst[i]);
            DUE.is("next ahead of down", x.way(12, 2, 10 + i), nextFirst[i]);
            DUE.is("down ahead of back", x.way(14, 0, 10 + i), downFirst[i]);
        }
        // One more RISK is left out by a longer way; an equal one is not.
        x.place(1, 0, 30, 0);
        x.place(7, 0, 30, 0);
        DUE.is("fewest steps among equal RISKS", x.way(0, 2, 1), 6);
        x.place(13, 0, 30, 0);
        x.place(19, 0, 30, 0);
        x.place(25, 0, 30, 0);
        DUE.is("all cross one RISK", x.way(0, 2, 0), 2);
        DUE.is("with fewest steps", x.way(0, 2, 1), 2);
        DUE.is("by CELL 1", x.way(0, 2, 11), 1);
    }

    private static void wayBad() {
        WhiteSlope x = new WhiteSlope();
        int[][] bad = {{-1, 0, 0}, {30, 0, 0}, {0, -1, 0}, {0, 30, 0}, {0, 0, -1}, {0, 0, 3}, {0, 0, 9}, {0, 0, Due.LOWEST}};
        for (int[] b : bad) {
            DUE.is("bad way", x.way(b[0], b[1], b[2]), Due.BAD);
        }
    }

    private static void bound() {
        WhiteSlope x = pathOf(0, 6, 12, 18, 24, 25, 26, 20, 14, 8, 2);
        // Straight on: CELLS 1 (22) and 2; over CELL 7: the same and more steps; round: 10 steps without RISK.
        DUE.is("not there", x.bound(0, 2, 1), Due.NONE);
        DUE.is("straight on", x.bound(0, 2, 2), 22);
        DUE.is("straight on, with more steps", x.bound(0, 2, 9), 22);
        DUE.is("round", x.bound(0, 2, 10), 0);
        DUE.is("round, with the most steps", x.bound(0, 2, 40), 0);
        DUE.is("to the same with none", x.bound(0, 0, 0), 0);
        DUE.is("to the same with more", x.bound(9, 9, 40), 0);
        DUE.is("to another with none", x.bound(0, 6, 0), Due.NONE);
        DUE.is("the last one's RISK counts", x.bound(0, 1, 1), 22);
        DUE.is("to CELL 0", x.bound(12, 0, 2), 0);
        DUE.is("steps may be left over", x.bound(12, 0, 3), 0);
        int[][] bad = {{-1, 0, 0}, {30, 0, 0}, {0, -1, 0}, {0, 30, 0}, {0, 0, -1}, {0, 0, 41}};
        for (int[] b : bad) {
            DUE.is("bad bound", x.bound(b[0], b[1], b[2]), Due.BAD);
        }
    }

    private static void wall() {
        WhiteSlope x = pathOf(0, 6, 12, 18, 24, 25, 26, 20, 14, 8, 2);
        DUE.is("by the flat path", x.wall(0, 2), 10);
        DUE.is("the other way", x.wall(2, 0), 10);
        x.set(26, 0, 27);
        DUE.is("over the steeper one", x.wall(0, 2), 27);
        x.set(26, 0, 55);
        DUE.is("round the steepest one", x.wall(0, 2), 40);
        x.set(0, 0, 58);
        DUE.is("the first one, too", x.wall(0, 2), 58);
        DUE.is("the last one, too", x.wall(2, 0), 58);
        DUE.is("to the same", x.wall(0, 0), 58);
        DUE.is("flat", new WhiteSlope().wall(3, 29), 0);
        int[][] bad = {{-1, 0}, {30, 0}, {0, -1}, {0, 30}};
        for (int[] b : bad) {
            DUE.is("bad wall", x.wall(b[0], b[1]), Due.BAD);
        }
    }

    private static void reach() {
        WhiteSlope x = pathOf(0, 6, 12, 18, 24, 25, 26, 20, 14, 8, 2, 29);
        DUE.is("along the path", x.reach(0, 0), 11);
        DUE.is("not from a lone one", x.reach(29, 0), 1);
        DUE.is("from a steep one", x.reach(1, 0), 12);
        DUE.is("still too much RISK", x.reach(29, 21), 1);
        DUE.is("all", x.reach(29, 22), 30);
        DUE.is("all by the most", x.reach(15, 99999), 30);
        int[][] bad = {{-1, 0}, {30, 0}, {0, -1}, {0, 100000}};
        for (int[] b : bad) {
            DUE.is("bad reach", x.reach(b[0], b[1]), Due.BAD);
        }
    }

    private static void odds() {
        WhiteSlope x = new WhiteSlope();
        DUE.is("odds(50, 0, 0)", x.odds(50, 0, 0), 1);
        DUE.is("odds(50, 0, 1)", x.odds(50, 0, 1), 2);
        DUE.is("odds(50, 12, 0)", x.odds(50, 12, 0), 531441);
        DUE.is("odds(50, 12, 1)", x.odds(50, 12, 1), 531442);
        DUE.is("odds(99, 12, 0)", x.odds(99, 12, 0), 52612659);
        DUE.is("odds(99, 12, 1)", x.odds(99, 12, 1), 52612660);
        DUE.is("odds(97, 1, 0)", x.odds(97, 1, 0), 97);
        DUE.is("odds(97, 1, 1)", x.odds(97, 1, 1), 98);
        DUE.is("odds(0, 0, 0)", x.odds(0, 0, 0), 0);
        DUE.is("odds(0, 12, 1)", x.odds(0, 12, 1), 1);
        DUE.is("odds(100, 0, 0)", x.odds(100, 0, 0), 1);
        DUE.is("odds(100, 5, 1)", x.odds(100, 5, 1), 1);
        int[][] bad = {{-1, 0, 0}, {101, 0, 0}, {0, -1, 0}, {0, 13, 0}, {0, 0, -1}, {0, 0, 2}};
        for (int[] b : bad) {
            DUE.is("bad odds", x.odds(b[0], b[1], b[2]), Due.BAD);
        }
    }
}
