/** Promises 37 to 41: rows and images. */
public final class RowsTest {
    private static final Due DUE = new Due("RowsTest");

    public static void main(String[] args) {
        tell();
        check();
        checkClears();
        checkByTheImage();
        keepAndBack();
        imageLeavesOut();
        count();
        DUE.end();
    }

    private static void tell() {
        WhiteSlope x = new WhiteSlope();
        for (int i = 1; i <= 60; i++) {
            DUE.is("tell", x.tell(Due.LOWEST + i), i);
        }
        DUE.is("FULL", x.tell(0), Due.FULL);
        DUE.is("60 wait", x.count(7), 60);
    }

    private static WhiteSlope dealt(int seed) {
        WhiteSlope x = new WhiteSlope();
        x.seed(seed);
        x.deal();
        x.today(2, 9);
        return x;
    }

    /** Tells the first numbers of THE TICKS TOLD, worked out by another object. */
    private static void tellTicks(WhiteSlope x, int seed, int many) {
        WhiteSlope y = dealt(seed);
        for (int i = 0; i < many; i += 2) {
            x.tell(y.run(1));
            if (i + 1 < many) {
                x.tell(y.count(0));
            }
        }
    }

    private static void check() {
        WhiteSlope x = dealt(31);
        x.keep();
        int load = x.count(0);
        tellTicks(x, 31, 60);
        DUE.is("all of 30", x.check(30), 0);
        tellTicks(x, 31, 2);
        DUE.is("all of one", x.check(1), 0);
        for (int many = 0; many < 8; many++) {
            tellTicks(x, 31, many);
            DUE.is("missing behind " + many, x.check(4), 1 + many);
        }
        tellTicks(x, 31, 9);
        DUE.is("one too many", x.check(4), 9);
        tellTicks(x, 31, 20);
        DUE.is("many too many", x.check(4), 9);
        for (int wrong = 0; wrong < 8; wrong++) {
            tellTicks(x, 31, wrong);
            x.tell(-1);
            x.tell(-1);
            DUE.is("wrong behind " + wrong, x.check(4), 1 + wrong);
        }
        DUE.is("nothing goes on: LOAD", x.count(0), load);
        DUE.is("nothing goes on: HOUR", x.count(3), 6);
        DUE.is("nothing goes on: SLID", x.count(1), 0);
    }

    private static void checkClears() {
        WhiteSlope x = new WhiteSlope();
        int[] bad = {0, 31, -1, Due.LOWEST, Due.HIGHEST};
        for (int n : bad) {
            x.tell(1);
            DUE.is("BAD goes ahead of NO", x.check(n), Due.BAD);
            DUE.is("none wait behind BAD", x.count(7), 0);
        }
        x.tell(1);
        DUE.is("no IMAGE", x.check(30), Due.NO);
        DUE.is("none wait behind NO", x.count(7), 0);
        x.keep();
        x.tell(1);
        x.check(1);
        DUE.is("none wait behind a wrong one", x.count(7), 0);
        x.tell(0);
        x.tell(150);
        DUE.is("right", x.check(1), 0);
        DUE.is("none wait behind right ones", x.count(7), 0);
    }

    private static void checkByTheImage() {
        WhiteSlope x = dealt(5);
        Due.text(x, "hold 0");
        x.keep();
        Due.text(x, "hold 99");
        x.run(7);
        x.seed(0);
        x.deal();
        x.today(1, 0);
        x.today(2, 0);
        WhiteSlope y = dealt(5);
        Due.text(y, "hold 0");
        for (int i = 0; i < 3; i++) {
            x.tell(y.run(1));
            x.tell(y.count(0));
        }
        DUE.is("by THE IMAGE, and its TEXTS", x.check(3), 0);
    }

    private static void keepAndBack() {
        WhiteSlope x = dealt(12);
        DUE.is("back without an IMAGE", x.back(), Due.NO);
        x.today(0, 4);
        x.today(1, 15);
        Due.text(x, "risk s");
        x.run(2);
        x.track(3);
        x.track(9);
        int[] counts = new int[10];
        int[] told = new int[240];
        for (int i = 0; i < 10; i++) {
            counts[i] = x.count(i);
        }
        for (int i = 0; i < 240; i++) {
            told[i] = x.told(i / 8, i % 8);
        }
        DUE.is("keep", x.keep(), counts[0]);
        for (int often = 0; often < 2; often++) {
            x.seed(often);
            x.deal();
            x.run(30);
            x.today(0, 0);
            x.today(2, 1);
            x.wipe();
            x.track(20);
            Due.text(x, "risk 1");
            DUE.is("back", x.back(), counts[0]);
            for (int i = 0; i < 10; i++) {
                DUE.is("count(" + i + ") behind back", x.count(i), counts[i]);
            }
        }
        for (int i = 0; i < 240; i++) {
            DUE.is("told behind back", x.told(i / 8, i % 8), told[i]);
        }
        DUE.is("the TRACK", x.at(0) * 100 + x.at(1), 309);
        x.set(0, 1, 777);
        int all = x.count(0);
        DUE.is("a later IMAGE", x.keep(), all);
        x.set(0, 1, 0);
        DUE.is("back to the later one", x.back(), all);
        DUE.is("its LOAD", x.told(0, 2), 777);
    }

    private static void imageLeavesOut() {
        WhiteSlope x = new WhiteSlope();
        x.keep();
        x.sheet(1, 0, 3);
        x.mark(1, 2, 44);
        x.lay(2, 3, 9);
        x.tell(5);
        x.feed(1, 2, 3);
        x.back();
        DUE.is("numbers that wait stay", x.count(7), 1);
        DUE.is("the tape stays", x.count(8), 12);
        DUE.is("SLOTS stay", x.rest(2, 5), 4);
        x.lay(0, 2, 1);
        DUE.is("SHEETS stay", x.item(0, 2), 44);
    }

    private static void count() {
        WhiteSlope x = new WhiteSlope();
        x.today(0, 1);
        x.today(1, 2);
        x.today(2, 4);
        x.set(9, 1, 500);
        x.set(10, 1, 400);
        x.track(0);
        Due.text(x, "risk s");
        Due.text(x, "risk s");
        x.tell(1);
        x.tell(1);
        x.tell(1);
        x.feed(0, 0, 0);
        x.seed(-9);
        int[] want = {900, 0, 1, 2, 4, 1, 2, 3, 12, -9};
        for (int i = 0; i < 10; i++) {
            DUE.is("count(" + i + ")", x.count(i), want[i]);
        }
        DUE.is("count(-1)", x.count(-1), Due.BAD);
        DUE.is("count(10)", x.count(10), Due.BAD);
        DUE.is("count(lowest)", x.count(Due.LOWEST), Due.BAD);
        x.place(0, 0, 60, 999);
        int slides = x.run(1);
        DUE.holds("it SLID", slides > 0);
        DUE.is("SLID", x.count(1), slides);
    }
}
