/** Promises 13 to 17: the track. */
public final class TrackTest {
    private static final Due DUE = new Due("TrackTest");

    public static void main(String[] args) {
        track();
        full();
        wipeAndAt();
        along();
        alongByText();
        turnBack();
        DUE.end();
    }

    private static void track() {
        for (int cell = 0; cell < 30; cell++) {
            for (int other = 0; other < 30; other++) {
                WhiteSlope x = new WhiteSlope();
                x.track(cell);
                int up = Math.abs(cell / 6 - other / 6);
                int aside = Math.abs(cell % 6 - other % 6);
                DUE.is("track " + cell + ", " + other, x.track(other), up + aside == 1 ? 2 : Due.NO);
                DUE.is("CELLS then", x.count(5), up + aside == 1 ? 2 : 1);
            }
        }
        WhiteSlope x = new WhiteSlope();
        int[] bad = {-1, 30, Due.LOWEST, Due.HIGHEST, Due.NONE};
        for (int cell : bad) {
            DUE.is("bad track", x.track(cell), Due.BAD);
        }
        x.track(29);
        for (int cell : bad) {
            DUE.is("bad track behind one", x.track(cell), Due.BAD);
        }
        DUE.is("it has one", x.count(5), 1);
    }

    private static void full() {
        WhiteSlope x = new WhiteSlope();
        for (int i = 0; i < 24; i++) {
            DUE.is("track on", x.track(i % 2), i + 1);
        }
        DUE.is("BAD goes first", x.track(30), Due.BAD);
        DUE.is("NO goes ahead of FULL", x.track(1), Due.NO);
        DUE.is("FULL", x.track(0), Due.FULL);
        DUE.is("FULL to another one", x.track(7), Due.FULL);
        DUE.is("it has 24", x.count(5), 24);
        DUE.is("the last one", x.at(23), 1);
        DUE.is("none behind it", x.at(24), Due.NONE);
    }

    private static void wipeAndAt() {
        WhiteSlope x = new WhiteSlope();
        DUE.is("wipe none", x.wipe(), 0);
        x.track(10);
        x.track(16);
        x.track(15);
        DUE.is("at(0)", x.at(0), 10);
        DUE.is("at(1)", x.at(1), 16);
        DUE.is("at(2)", x.at(2), 15);
        DUE.is("at(3)", x.at(3), Due.NONE);
        DUE.is("at(highest)", x.at(Due.HIGHEST), Due.NONE);
        DUE.is("at(-1)", x.at(-1), Due.BAD);
        DUE.is("at(lowest)", x.at(Due.LOWEST), Due.BAD);
        DUE.is("wipe", x.wipe(), 3);
        DUE.is("at(0) then", x.at(0), Due.NONE);
        DUE.is("a new first one may be any", x.track(0), 1);
    }

    private static void along() {
        WhiteSlope x = new WhiteSlope();
        for (int what = 0; what < 5; what++) {
            DUE.is("along none", x.along(what), Due.NONE);
        }
        DUE.is("BAD goes ahead of NONE", x.along(5), Due.BAD);
        DUE.is("along(-1)", x.along(-1), Due.BAD);
        x.place(8, 0, 50, 90);
        x.place(14, 1, 31, 40);
        x.place(15, 0, 9, 40);
        x.place(9, 2, 40, 0);
        x.track(8);
        int[] alone = {0, 0, 0, 50, 51};
        for (int what = 0; what < 5; what++) {
            DUE.is("along one: " + what, x.along(what), alone[what]);
        }
        x.track(14);
        x.track(15);
        x.track(9);
        x.track(3);
        x.track(9);
        x.track(10);
        x.track(11);
        // RISKS: 8; 0; 22 / 2, twice (CELL 9 comes twice); 0 for the others.
        DUE.is("RISK", x.along(0), 8 + 0 + 11 + 0 + 11);
        // STEPS: up 14: 1 + 3 + 2; 15: 1; down 9: 1 + 4; down 3: 1; up 9: 1 + 4 + 2; 10: 1; 11: 1.
        DUE.is("BREATH", x.along(1), 6 + 1 + 5 + 1 + 7 + 1 + 1);
        DUE.is("TURNS", x.along(2), 4);
        DUE.is("greatest STEEP", x.along(3), 50);
        DUE.is("greatest RISK, the first one's", x.along(4), 51);
        x.set(8, 0, 0);
        DUE.is("greatest STEEP then", x.along(3), 40);
        DUE.is("greatest RISK then", x.along(4), 11);
        x.wipe();
        x.track(0);
        x.track(1);
        x.track(0);
        DUE.is("to turn round is a TURN", x.along(2), 1);
    }

    private static void alongByText() {
        WhiteSlope x = new WhiteSlope();
        x.place(7, 0, 20, 0);
        x.track(1);
        x.track(7);
        x.track(1);
        Due.text(x, "step s+u*5+1");
        DUE.is("BREATH by step", x.along(1), 26 + 1);
        Due.text(x, "step 50*u-1");
        DUE.is("a STEP is held from below", x.along(1), 49);
        Due.text(x, "step 100+s");
        DUE.is("a STEP is held from above", x.along(1), 2 * 99);
        Due.text(x, "risk s+7");
        DUE.is("RISK by risk", x.along(0), 27 + 7);
        DUE.is("greatest RISK by risk", x.along(4), 27);
    }

    private static void turnBack() {
        WhiteSlope x = new WhiteSlope();
        DUE.is("turnBack without a TRACK", x.turnBack(0), Due.NONE);
        x.place(0, 0, 30, 0);
        x.place(2, 0, 40, 0);
        x.track(0);
        x.track(1);
        x.track(2);
        DUE.is("the first one, too", x.turnBack(0), 0);
        DUE.is("still above 1", x.turnBack(1), 0);
        DUE.is("not above 2", x.turnBack(2), 2);
        DUE.is("still above 21", x.turnBack(21), 2);
        DUE.is("not above 22", x.turnBack(22), Due.NONE);
        DUE.is("the greatest r", x.turnBack(99999), Due.NONE);
        x.wipe();
        x.track(1);
        x.track(7);
        DUE.is("what was wiped does not count", x.turnBack(0), Due.NONE);
        DUE.is("nor does its STEEP", x.along(3), 0);
        DUE.is("nor does its RISK", x.along(4), 0);
        DUE.is("turnBack(100000)", x.turnBack(100000), Due.BAD);
        DUE.is("turnBack(-1)", x.turnBack(-1), Due.BAD);
    }
}
