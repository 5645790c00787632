/** Promises 1 to 9: a new object, places and the day. */
public final class PlacesTest {
    private static final Due DUE = new Due("PlacesTest");

    public static void main(String[] args) {
        newObject();
        place();
        told();
        toldByText();
        as();
        turns();
        set();
        today();
        deal();
        seed();
        DUE.end();
    }

    private static void newObject() {
        WhiteSlope x = new WhiteSlope();
        int[] counts = {0, 0, 2, 6, 3, 0, 0, 0, 0, 1};
        for (int what = 0; what < counts.length; what++) {
            DUE.is("new: count(" + what + ")", x.count(what), counts[what]);
        }
        for (int cell = 0; cell < 30; cell++) {
            for (int what = 0; what < 8; what++) {
                DUE.is("new: told(" + cell + ", " + what + ")", x.told(cell, what), what == 6 ? 70 : 0);
            }
        }
        for (int sheet = 0; sheet < 4; sheet++) {
            DUE.is("new: reads(" + sheet + ")", x.reads(sheet), Due.NOTHING);
        }
        for (int slot = 0; slot < 5; slot++) {
            DUE.is("new: item(" + slot + ", 0)", x.item(slot, 0), Due.NOTHING);
        }
        for (int key = 0; key < 3; key++) {
            DUE.is("new: why(" + key + ")", x.why(key), Due.NONE);
        }
        DUE.is("new: at(0)", x.at(0), Due.NONE);
        DUE.is("new: back()", x.back(), Due.NO);
        DUE.is("two objects share nothing", new WhiteSlope().seed(5) + new WhiteSlope().seed(6), 2);
    }

    private static void place() {
        WhiteSlope x = new WhiteSlope();
        DUE.is("place(29, 5, 60, 999)", x.place(29, 5, 60, 999), 0);
        DUE.is("place again", x.place(29, 3, 0, 0), 5);
        DUE.is("place a third time", x.place(29, 0, 12, 34), 3);
        DUE.is("its STEEP", x.told(29, 1), 12);
        DUE.is("its LOAD", x.told(29, 2), 34);
        int[][] bad = {{-1, 0, 0, 0}, {30, 0, 0, 0}, {Due.LOWEST, 0, 0, 0}, {Due.HIGHEST, 0, 0, 0},
            {29, -1, 0, 0}, {29, 6, 0, 0}, {29, 0, -1, 0}, {29, 0, 61, 0}, {29, 0, 0, -1}, {29, 0, 0, 1000}};
        for (int[] b : bad) {
            DUE.is("bad place", x.place(b[0], b[1], b[2], b[3]), Due.BAD);
        }
        DUE.is("KIND stays", x.told(29, 0), 0);
        DUE.is("STEEP stays", x.told(29, 1), 12);
        DUE.is("LOAD stays", x.told(29, 2), 34);
    }

    private static void told() {
        WhiteSlope x = new WhiteSlope();
        x.today(0, 3);
        x.today(1, 12);
        x.place(26, 0, 45, 57);
        x.place(20, 0, 29, 999);
        x.place(14, 0, 30, 9);
        DUE.is("PLAIN RISK at the top", x.told(26, 3), 16 * 3 + 5);
        DUE.is("PLAIN RISK below 30", x.told(20, 3), 0);
        DUE.is("PLAIN RISK at 30", x.told(14, 3), 3);
        DUE.is("ABOVE at the top", x.told(26, 4), 0);
        DUE.is("ABOVE beneath it", x.told(20, 4), 53);
        DUE.is("ABOVE goes over several", x.told(2, 4), 53);
        DUE.is("ABOVE of the next COLUMN", x.told(3, 4), 0);
        // STEEP 40, LOAD 25: PLAIN RISK 11 * 3 + 2; ABOVE 53; SUN 3; HOLD as PLACE 30.
        int[] risk = {35, 35 + 26, 17, 2 * (35 + 26), 17 + 3, 11};
        int[] hold = {30, 30, 35, 30, 32, 50};
        int[] worth = {40, 65, 20, 130, 29, 25};
        for (int kind = 0; kind < 6; kind++) {
            x.place(8, kind, 40, 25);
            DUE.is("KIND", x.told(8, 0), kind);
            DUE.is("PLAIN RISK of KIND " + kind, x.told(8, 3), 35);
            DUE.is("RISK of KIND " + kind, x.told(8, 5), risk[kind]);
            DUE.is("HOLD of KIND " + kind, x.told(8, 6), hold[kind]);
            DUE.is("WORTH of KIND " + kind, x.told(8, 7), worth[kind]);
        }
        x.place(8, 4, 40, 25);
        int[] suns = {0, 0, 1, 14};
        int[] hours = {0, 9, 10, 23};
        for (int i = 0; i < hours.length; i++) {
            x.today(1, hours[i]);
            DUE.is("RISK in the sun", x.told(8, 5), 17 + suns[i]);
            DUE.is("HOLD in the sun", x.told(8, 6), 35 - suns[i]);
        }
        DUE.is("told(-1, 0)", x.told(-1, 0), Due.BAD);
        DUE.is("told(30, 0)", x.told(30, 0), Due.BAD);
        DUE.is("told(0, -1)", x.told(0, -1), Due.BAD);
        DUE.is("told(0, 8)", x.told(0, 8), Due.BAD);
        DUE.is("told(highest)", x.told(Due.HIGHEST, Due.LOWEST), Due.BAD);
    }

    private static void toldByText() {
        WhiteSlope x = new WhiteSlope();
        x.place(9, 0, 20, 30);
        x.today(0, 4);
        Due.text(x, "risk s*100+l*10+d");
        DUE.is("risk is held from above", x.told(9, 3), 999);
        Due.text(x, "risk 0-s");
        DUE.is("risk is held from below", x.told(9, 3), 0);
        Due.text(x, "risk s*3+l*10+d");
        DUE.is("risk gives PLAIN RISK below 30, too", x.told(9, 3), 364);
        DUE.is("ABOVE is by the TEXT", x.told(3, 4), 364);
        x.turns(3, 3);
        DUE.is("RISK is by the TEXT, and not held", x.told(3, 5), 2 * (4 + 182));
        Due.text(x, "hold s*100+r");
        DUE.is("hold is held from above", x.told(9, 6), 99);
        x.turns(9, 5);
        DUE.is("that alone is held", x.told(9, 6), 119);
        Due.text(x, "hold 0-1");
        x.today(1, 23);
        x.turns(9, 4);
        DUE.is("HOLD of SUNNED may be below 0", x.told(9, 6), 0 + 5 - 14);
        Due.text(x, "hold r*10+s");
        x.turns(9, 0);
        DUE.is("hold by ROW and STEEP", x.told(9, 6), 30);
        DUE.is("hold by the top ROW", x.told(29, 6), 40);
    }

    private static void as() {
        WhiteSlope x = new WhiteSlope();
        // Row: the KIND a PLACE is of; column: the KIND asked for.
        String[] under = {"100000", "110000", "101000", "110100", "101010", "100001"};
        for (int kind = 0; kind < 6; kind++) {
            x.place(7, kind, 17 + kind, 3);
            for (int asked = 0; asked < 6; asked++) {
                DUE.is("KIND " + kind + " as " + asked, x.as(7, asked),
                    under[kind].charAt(asked) == '1' ? 17 + kind : Due.KIND);
            }
        }
        DUE.is("as(-1, 0)", x.as(-1, 0), Due.BAD);
        DUE.is("as(30, 0)", x.as(30, 0), Due.BAD);
        DUE.is("as(7, -1)", x.as(7, -1), Due.BAD);
        DUE.is("as(7, 6)", x.as(7, 6), Due.BAD);
    }

    private static void turns() {
        WhiteSlope x = new WhiteSlope();
        x.place(11, 2, 33, 44);
        DUE.is("turns(11, 4)", x.turns(11, 4), 2);
        DUE.is("turns to the same", x.turns(11, 4), 4);
        DUE.is("KIND", x.told(11, 0), 4);
        DUE.is("STEEP stays", x.told(11, 1), 33);
        DUE.is("LOAD stays", x.told(11, 2), 44);
        int[][] bad = {{-1, 0}, {30, 0}, {11, -1}, {11, 6}};
        for (int[] b : bad) {
            DUE.is("bad turns", x.turns(b[0], b[1]), Due.BAD);
        }
        DUE.is("KIND stays", x.told(11, 0), 4);
    }

    private static void set() {
        WhiteSlope x = new WhiteSlope();
        DUE.is("set STEEP", x.set(0, 0, 60), 0);
        DUE.is("set STEEP again", x.set(0, 0, 0), 60);
        DUE.is("set LOAD", x.set(0, 1, 999), 0);
        DUE.is("set LOAD again", x.set(0, 1, 0), 999);
        x.place(5, 3, 21, 43);
        int[][] bad = {{-1, 0, 0}, {30, 0, 0}, {5, -1, 0}, {5, 2, 0}, {5, 0, 61}, {5, 0, -1}, {5, 1, 1000}, {5, 1, -1}};
        for (int[] b : bad) {
            DUE.is("bad set", x.set(b[0], b[1], b[2]), Due.BAD);
        }
        DUE.is("STEEP stays", x.told(5, 1), 21);
        DUE.is("LOAD stays", x.told(5, 2), 43);
        DUE.is("a LOAD may be above the most STEEP", x.set(5, 1, 61), 43);
        DUE.is("KIND stays", x.told(5, 0), 3);
    }

    private static void today() {
        WhiteSlope x = new WhiteSlope();
        DUE.is("DANGER", x.today(0, 5), 2);
        DUE.is("DANGER again", x.today(0, 0), 5);
        DUE.is("HOUR", x.today(1, 23), 6);
        DUE.is("HOUR again", x.today(1, 0), 23);
        DUE.is("FALL", x.today(2, 9), 3);
        DUE.is("FALL again", x.today(2, 0), 9);
        int[][] bad = {{-1, 0}, {3, 0}, {0, 6}, {0, -1}, {1, 24}, {1, -1}, {2, 10}, {2, -1}};
        for (int[] b : bad) {
            DUE.is("bad today", x.today(b[0], b[1]), Due.BAD);
        }
        DUE.is("all three stay", x.count(2) + x.count(3) + x.count(4), 0);
    }

    private static void deal() {
        WhiteSlope x = new WhiteSlope();
        x.track(4);
        x.seed(-77);
        int z = -77;
        int all = 0;
        int[][] drawn = new int[30][3];
        for (int cell = 0; cell < 30; cell++) {
            int[] by = {6, 50, 40};
            for (int i = 0; i < 3; i++) {
                z = z * 1103515245 + 12345;
                drawn[cell][i] = (z >>> 8) % by[i];
            }
            all += drawn[cell][2];
        }
        DUE.is("deal()", x.deal(), all);
        for (int cell = 0; cell < 30; cell++) {
            for (int i = 0; i < 3; i++) {
                DUE.is("dealt: told(" + cell + ", " + i + ")", x.told(cell, i), drawn[cell][i]);
            }
        }
        DUE.is("z goes on", x.count(9), z);
        DUE.is("the day stays", x.count(3), 6);
        DUE.is("the TRACK stays", x.count(5), 1);
    }

    private static void seed() {
        WhiteSlope x = new WhiteSlope();
        DUE.is("seed(lowest)", x.seed(Due.LOWEST), 1);
        DUE.is("seed(highest)", x.seed(Due.HIGHEST), Due.LOWEST);
        DUE.is("z", x.count(9), Due.HIGHEST);
        x.run(1);
        DUE.is("z behind a draw", x.count(9), Due.HIGHEST * 1103515245 + 12345);
    }
}
