/** Promises 10 to 12: ticks. */
public final class TicksTest {
    private static final Due DUE = new Due("TicksTest");
    // Behind seed(0) the first draw is 12345 >>> 8, 48, whose rest by 3 is 0: only FALL falls.
    private static final int DRY = 0;

    public static void main(String[] args) {
        run();
        snowAndHour();
        drift();
        slides();
        slidesBelowNoHold();
        slidesByText();
        heldLoads();
        ahead();
        calm();
        DUE.end();
    }

    private static WhiteSlope dry() {
        WhiteSlope x = new WhiteSlope();
        x.seed(DRY);
        x.today(2, 0);
        return x;
    }

    private static void run() {
        WhiteSlope x = new WhiteSlope();
        DUE.is("run(0)", x.run(0), Due.BAD);
        DUE.is("run(-1)", x.run(-1), Due.BAD);
        DUE.is("run(49)", x.run(49), Due.BAD);
        DUE.is("run(lowest)", x.run(Due.LOWEST), Due.BAD);
        DUE.is("no HOUR went by", x.count(3), 6);
        DUE.is("z stays", x.count(9), 1);
        DUE.is("run(48) on flat ground", x.run(48), 0);
        DUE.is("two days went by", x.count(3), 6);
    }

    private static void snowAndHour() {
        WhiteSlope x = new WhiteSlope();
        x.today(1, 22);
        x.today(2, 9);
        int z = 1;
        int load = 0;
        for (int i = 0; i < 2; i++) {
            z = z * 1103515245 + 12345;
            load += 9 + (z >>> 8) % 3;
            x.run(1);
            DUE.is("HOUR", x.count(3), (23 + i) % 24);
            DUE.is("z: one draw a TICK", x.count(9), z);
            DUE.is("all CELLS have the same", x.count(0), 30 * load);
            DUE.is("one CELL", x.told(17, 2), load);
        }
    }

    private static void drift() {
        WhiteSlope x = dry();
        x.set(6, 1, 120);
        x.set(7, 1, 60);
        x.set(8, 1, 29);
        x.set(9, 1, 21);
        x.set(11, 1, 40);
        x.set(29, 1, 30);
        x.place(0, 5, 0, 999);
        x.place(3, 0, 0, 20);
        DUE.is("no SLIDE", x.run(1), 0);
        int[] row = {110, 66, 33, 21, 0, 38};
        for (int column = 0; column < 6; column++) {
            DUE.is("DRIFT at COLUMN " + column, x.told(6 + column, 2), row[column]);
        }
        DUE.is("nothing comes to the next ROW", x.told(12, 2), 0);
        DUE.is("from the last CELL it is gone", x.told(29, 2), 29);
        DUE.is("WOODED does not DRIFT", x.told(0, 2), 999);
        DUE.is("20 does not DRIFT", x.told(3, 2), 20);
        x.place(1, 5, 0, 0);
        x.place(0, 0, 0, 40);
        x.seed(DRY);
        x.run(1);
        DUE.is("it comes into WOODED", x.told(1, 2), 2);
    }

    private static void slides() {
        WhiteSlope x = dry();
        x.place(24, 0, 50, 20);
        x.place(18, 0, 50, 20);
        x.place(25, 0, 29, 20);
        x.place(1, 0, 60, 11);
        x.place(13, 2, 55, 20);
        x.place(14, 4, 55, 20);
        x.place(15, 5, 60, 20);
        x.place(21, 0, 30, 2);
        x.today(1, 10);
        DUE.is("ahead of it", x.ahead(1, 1), 2);
        DUE.is("20 is not above 20, 11 is above 10", x.run(1), 2);
        DUE.is("from ROW 0 it is gone", x.told(1, 2), 0);
        DUE.is("RIBBED holds 20", x.told(13, 2), 20);
        DUE.is("SUNNED holds 19 at HOUR 10", x.told(14, 2), 0);
        DUE.is("it came below it", x.told(8, 2), 20);
        DUE.is("WOODED holds 30", x.told(15, 2), 20);
        DUE.is("SLID", x.count(1), 2);
        x.set(24, 1, 21);
        x.seed(DRY);
        DUE.is("a SLIDE lets the one below SLIDE", x.run(1), 2);
        DUE.is("ROW 4 has none", x.told(24, 2), 0);
        DUE.is("ROW 3 has none", x.told(18, 2), 0);
        DUE.is("ROW 2 has both", x.told(12, 2), 41);
        DUE.is("29 never SLIDES", x.told(25, 2), 20);
        DUE.is("SLID counts all", x.count(1), 4);
    }

    private static void slidesBelowNoHold() {
        WhiteSlope x = dry();
        Due.text(x, "hold 0");
        x.today(1, 20);
        x.place(10, 4, 30, 0);
        DUE.is("a HOLD below 0 lets no LOAD SLIDE, too", x.run(1), 1);
        x.today(1, 14);
        x.seed(DRY);
        DUE.is("no LOAD is not above a HOLD of 0", x.run(1), 0);
    }

    private static void slidesByText() {
        WhiteSlope x = dry();
        x.place(20, 0, 40, 12);
        DUE.is("30 holds 12", x.run(1), 0);
        Due.text(x, "hold r*4");
        x.seed(DRY);
        DUE.is("ROW 3 holds 12", x.run(1), 0);
        Due.text(x, "hold r*4-1");
        x.seed(DRY);
        DUE.is("11 does not", x.run(1), 1);
        DUE.is("it came to ROW 2", x.told(14, 2), 12);
    }

    private static void heldLoads() {
        WhiteSlope x = dry();
        x.today(2, 9);
        x.place(3, 5, 0, 998);
        x.run(1);
        DUE.is("held behind the fall", x.told(3, 2), 999);
        x = dry();
        x.today(2, 9);
        x.place(0, 0, 0, 998);
        x.run(1);
        DUE.is("held behind the fall, ahead of the DRIFT", x.told(0, 2), 999 - 97);
        x = dry();
        x.set(0, 1, 999);
        x.place(1, 5, 0, 999);
        x.run(1);
        DUE.is("held behind the DRIFT", x.told(1, 2), 999);
        DUE.is("what went is gone", x.told(0, 2), 999 - 97);
        x = dry();
        x.place(24, 5, 40, 999);
        x.place(18, 5, 40, 999);
        x.place(12, 5, 40, 0);
        x.place(6, 5, 0, 1);
        DUE.is("three SLIDES", x.run(1), 3);
        DUE.is("held behind all SLIDES", x.told(6, 2), 999);
        DUE.is("all LOAD", x.count(0), 999);
        x = dry();
        x.place(6, 5, 40, 999);
        x.place(0, 5, 0, 999);
        DUE.is("ROW 1 SLIDES into ROW 0", x.run(1), 1);
        DUE.is("held there", x.told(0, 2), 999);
        x.set(0, 1, 3);
        x.set(6, 1, 51);
        x.seed(DRY);
        x.run(1);
        DUE.is("all came to ROW 0", x.told(0, 2), 54);
    }

    private static void ahead() {
        WhiteSlope x = new WhiteSlope();
        x.seed(9);
        x.deal();
        x.track(3);
        int z = x.count(9);
        int load = x.count(0);
        WhiteSlope y = new WhiteSlope();
        y.seed(9);
        y.deal();
        for (int n = 0; n <= 48; n += 8) {
            int slides = 0;
            if (n > 0) {
                y.seed(9);
                y.deal();
                y.today(1, 6);
                slides = y.run(n);
            }
            int most = 0;
            for (int cell = 0; cell < 30; cell++) {
                most = y.told(cell, 2) > y.told(most, 2) ? cell : most;
            }
            DUE.is("ahead: all LOAD", x.ahead(n, 0), y.count(0));
            DUE.is("ahead: SLIDES", x.ahead(n, 1), slides);
            DUE.is("ahead: greatest LOAD", x.ahead(n, 2), y.told(most, 2));
            DUE.is("ahead: first CELL with it", x.ahead(n, 3), most);
        }
        DUE.is("z stays", x.count(9), z);
        DUE.is("all LOAD stays", x.count(0), load);
        DUE.is("HOUR stays", x.count(3), 6);
        DUE.is("SLID stays", x.count(1), 0);
        DUE.is("the TRACK stays", x.count(5), 1);
        int[][] bad = {{-1, 0}, {49, 0}, {0, -1}, {0, 4}};
        for (int[] b : bad) {
            DUE.is("bad ahead", x.ahead(b[0], b[1]), Due.BAD);
        }
        DUE.is("the first of equal LOADS", new WhiteSlope().ahead(3, 3), 0);
        for (int cell = 0; cell < 30; cell++) {
            WhiteSlope one = new WhiteSlope();
            one.set(cell, 1, 9);
            DUE.is("the only CELL with the greatest", one.ahead(0, 3), cell);
            DUE.is("its LOAD", one.ahead(0, 2), 9);
        }
    }

    private static void calm() {
        WhiteSlope x = new WhiteSlope();
        DUE.is("flat ground is calm", x.calm(), Due.NONE);
        x.set(15, 0, 60);
        x.today(2, 0);
        int till = 0;
        for (int n = 1; n <= 48 && till == 0; n++) {
            till = x.ahead(n, 1) > 0 ? n : 0;
        }
        DUE.holds("it takes more than one", till > 1);
        DUE.is("calm()", x.calm(), till);
        DUE.is("nothing changes", x.count(9), 1);
        DUE.is("no HOUR goes by", x.count(3), 6);
        DUE.is("no SLIDE till then", x.run(till - 1), 0);
        DUE.is("one is left", x.calm(), 1);
        lateSlides();
    }

    /** A WOODED PLACE that can hold 119; nothing drifts into it or from it, so that its LOAD is known. */
    private static void lateSlides() {
        WhiteSlope x = new WhiteSlope();
        x.today(2, 0);
        Due.text(x, "hold 99");
        int seed = 0;
        int[] fallen = fallen(seed);
        while (fallen[48] == fallen[47]) {
            seed++;
            fallen = fallen(seed);
        }
        x.seed(seed);
        x.place(0, 5, 30, 119 - fallen[47]);
        DUE.is("the 48th counts", x.calm(), 48);
        x.place(0, 5, 30, 119 - fallen[48]);
        DUE.is("the 49th is too late", x.calm(), Due.NONE);
    }

    /** How much has fallen behind so many TICKS with a FALL of 0. */
    private static int[] fallen(int seed) {
        int z = seed;
        int[] all = new int[49];
        for (int n = 1; n <= 48; n++) {
            z = z * 1103515245 + 12345;
            all[n] = all[n - 1] + (z >>> 8) % 3;
        }
        return all;
    }
}
