/** Promises 28 to 36: sheets and slots. */
public final class SheetsTest {
    private static final Due DUE = new Due("SheetsTest");

    public static void main(String[] args) {
        sheet();
        mark();
        pour();
        reads();
        copy();
        copyEdges();
        lay();
        ask();
        item();
        rest();
        DUE.end();
    }

    /** Lays a SHEET into the last SLOT and asks for a place of it. */
    private static int placeOf(WhiteSlope x, int sheet, int place) {
        x.lay(4, 2, sheet);
        return x.item(4, place);
    }

    private static void row(WhiteSlope x, int sheet, String what, int... want) {
        for (int i = 0; i < want.length; i++) {
            DUE.is(what + ": place " + i, placeOf(x, sheet, i), want[i]);
        }
        DUE.is(what + ": no more", placeOf(x, sheet, want.length), Due.INDEX);
    }

    private static void sheet() {
        WhiteSlope x = new WhiteSlope();
        DUE.is("24 shorts", x.sheet(3, 0, 24), 24);
        DUE.is("its last place", x.mark(3, 23, 5), 1);
        DUE.is("no 25th", x.mark(3, 24, 5), Due.INDEX);
        DUE.is("none at all", x.sheet(3, 1, 0), 0);
        DUE.is("no first", x.mark(3, 0, 5), Due.INDEX);
        DUE.is("again", x.sheet(3, 0, 24), 24);
        DUE.is("all 0", placeOf(x, 3, 23), 0);
        x.mark(3, 0, 7);
        x.sheet(3, 1, 1);
        DUE.is("the first one, too", placeOf(x, 3, 0), 0);
        x.sheet(3, 0, 24);
        DUE.is("BAD goes first: sheet -1", x.sheet(-1, 0, -1), Due.BAD);
        DUE.is("sheet 4", x.sheet(4, 0, 1), Due.BAD);
        DUE.is("sort 2", x.sheet(0, 2, -1), Due.BAD);
        DUE.is("sort -2", x.sheet(0, -2, 1), Due.BAD);
        DUE.is("n 25", x.sheet(3, 0, 25), Due.BAD);
        DUE.is("n highest", x.sheet(3, 0, Due.HIGHEST), Due.BAD);
        DUE.is("n -1", x.sheet(3, 0, -1), Due.SIZE);
        DUE.is("n lowest", x.sheet(3, 1, Due.LOWEST), Due.SIZE);
        DUE.is("it stays", x.mark(3, 23, 6), 1);
        DUE.is("MISSING, n 99", x.sheet(3, -1, 99), 0);
        DUE.is("it is MISSING", x.mark(3, 0, 6), Due.NOTHING);
        DUE.is("MISSING, n -99", x.sheet(3, -1, -99), 0);
        DUE.is("MISSING, sheet 4", x.sheet(4, -1, 0), Due.BAD);
    }

    private static void mark() {
        WhiteSlope x = new WhiteSlope();
        x.sheet(0, 0, 4);
        x.sheet(1, 1, 4);
        DUE.is("short", x.mark(0, 0, 32767), 1);
        DUE.is("its lowest 16 bits", x.mark(0, 1, 32768), 1);
        DUE.is("its lowest 16 bits again", x.mark(0, 2, 0x12345), 1);
        DUE.is("lowest int", x.mark(0, 3, Due.LOWEST + 0xfffe), 1);
        row(x, 0, "shorts", 32767, -32768, 0x2345, -2);
        DUE.is("float", x.mark(1, 0, 99999), 1);
        DUE.is("least float", x.mark(1, 1, -99999), 1);
        DUE.is("NO NUMBER", x.mark(1, 2, Due.NONE), 1);
        row(x, 1, "floats", 99999, -99999, Due.KIND, 0);
        DUE.is("float too high", x.mark(1, 3, 100000), Due.BAD);
        DUE.is("float too low", x.mark(1, 3, -100000), Due.BAD);
        DUE.is("NONE in shorts", x.mark(0, 0, Due.NONE), Due.KIND);
        DUE.is("INDEX goes ahead of KIND", x.mark(0, 4, Due.NONE), Due.INDEX);
        DUE.is("INDEX goes ahead of BAD", x.mark(1, -1, 100000), Due.INDEX);
        DUE.is("INDEX -1", x.mark(0, -1, 0), Due.INDEX);
        DUE.is("INDEX highest", x.mark(0, Due.HIGHEST, 0), Due.INDEX);
        DUE.is("MISSING", x.mark(2, -1, 100000), Due.NOTHING);
        DUE.is("sheet -1", x.mark(-1, 0, 0), Due.BAD);
        DUE.is("sheet 4", x.mark(4, 0, 0), Due.BAD);
        row(x, 0, "shorts stay", 32767, -32768, 0x2345, -2);
        row(x, 1, "floats stay", 99999, -99999, Due.KIND, 0);
        DUE.is("NO NUMBER becomes a number", x.mark(1, 2, -5), 1);
        DUE.is("it is", placeOf(x, 1, 2), -5);
    }

    private static void pour() {
        WhiteSlope x = new WhiteSlope();
        for (int cell = 0; cell < 30; cell++) {
            x.set(cell, 1, 50);
        }
        x.sheet(0, 1, 5);
        x.mark(0, 0, 50);
        x.mark(0, 1, Due.NONE);
        x.mark(0, 2, 99999);
        x.mark(0, 3, -7);
        x.mark(0, 4, 999);
        DUE.is("pour", x.pour(0, 1), 3);
        int[] loads = {50, 50, 50, 50, 50, 50, 50, 50, 999, 0, 999, 50, 50};
        for (int cell = 0; cell < loads.length; cell++) {
            DUE.is("LOAD of CELL " + cell, x.told(cell, 2), loads[cell]);
        }
        DUE.is("pour again: none is otherwise", x.pour(0, 1), 0);
        x.sheet(1, 0, 24);
        for (int i = 0; i < 24; i++) {
            x.mark(1, i, 1000 + i);
        }
        DUE.is("a longer SHEET: one ROW alone", x.pour(1, 4), 6);
        DUE.is("the ROW below it", x.told(23, 2), 50);
        DUE.is("all LOAD", x.count(0), 30 * 50 + 949 - 50 + 949 + 6 * 949);
        x.sheet(2, 0, 0);
        DUE.is("none at all", x.pour(2, 0), 0);
        DUE.is("MISSING", x.pour(3, 0), Due.NOTHING);
        DUE.is("BAD goes first", x.pour(3, 5), Due.BAD);
        DUE.is("row -1", x.pour(0, -1), Due.BAD);
        DUE.is("sheet -1", x.pour(-1, 0), Due.BAD);
        DUE.is("sheet 4", x.pour(4, 0), Due.BAD);
    }

    private static void reads() {
        WhiteSlope x = new WhiteSlope();
        x.place(0, 0, 35, 0);
        x.place(7, 2, 36, 0);
        x.sheet(0, 1, 24);
        DUE.is("the first one", x.reads(0), 0);
        x.mark(0, 0, 12);
        DUE.is("RISK, not PLAIN RISK", x.reads(0), 7);
        x.mark(0, 7, 14);
        DUE.is("PLAIN RISK is not RISK", x.reads(0), 7);
        x.mark(0, 7, Due.NONE);
        DUE.is("NO NUMBER does not count", x.reads(0), Due.NONE);
        x.mark(0, 7, 7);
        DUE.is("all are", x.reads(0), Due.NONE);
        x.mark(0, 23, -1);
        DUE.is("the last one", x.reads(0), 23);
        x.sheet(1, 0, 7);
        x.mark(1, 0, 12);
        DUE.is("no further than the SHEET", x.reads(1), Due.NONE);
        x.sheet(2, 0, 0);
        DUE.is("none at all", x.reads(2), Due.NONE);
        x.seed(99);
        x.deal();
        x.place(26, 1, 60, 999);
        x.place(20, 3, 50, 40);
        x.place(2, 1, 31, 0);
        for (int cell = 0; cell < 24; cell++) {
            DUE.is("not yet", x.reads(0) < cell && x.reads(0) != Due.NONE ? 1 : 0, 0);
            x.mark(0, cell, x.told(cell, 5));
        }
        DUE.is("RISKS of a drawn MOUNTAIN", x.reads(0), Due.NONE);
        DUE.is("MISSING", x.reads(3), Due.NOTHING);
        DUE.is("sheet -1", x.reads(-1), Due.BAD);
        DUE.is("sheet 4", x.reads(4), Due.BAD);
    }

    private static void copy() {
        WhiteSlope x = new WhiteSlope();
        x.sheet(0, 0, 5);
        x.sheet(1, 0, 3);
        x.sheet(2, 1, 3);
        for (int i = 0; i < 5; i++) {
            x.mark(0, i, i + 1);
        }
        DUE.is("to another one", x.copy(0, 2, 1, 1, 2), 2);
        row(x, 1, "copied", 0, 3, 4);
        row(x, 0, "it stays", 1, 2, 3, 4, 5);
        DUE.is("to the same, further on", x.copy(0, 0, 0, 1, 4), 4);
        row(x, 0, "as they were", 1, 1, 2, 3, 4);
        DUE.is("to the same, back", x.copy(0, 2, 0, 0, 3), 3);
        row(x, 0, "as they were then", 2, 3, 4, 3, 4);
        x.sheet(3, 1, 1);
        x.mark(2, 2, Due.NONE);
        DUE.is("NO NUMBER, too", x.copy(2, 2, 3, 0, 1), 1);
        DUE.is("it is", placeOf(x, 3, 0), Due.KIND);
        DUE.is("not of one sort", x.copy(0, 0, 2, 0, 1), Due.KIND);
        DUE.is("KIND goes ahead of INDEX", x.copy(0, 9, 2, 0, -1), Due.KIND);
        x.sheet(3, -1, 0);
        DUE.is("from a MISSING one", x.copy(3, 0, 0, 0, 1), Due.NOTHING);
        DUE.is("to a MISSING one", x.copy(0, 0, 3, 0, -1), Due.NOTHING);
        DUE.is("from -1", x.copy(-1, 0, 3, 0, 1), Due.BAD);
        DUE.is("from 4", x.copy(4, 0, 0, 0, 1), Due.BAD);
        DUE.is("to -1", x.copy(3, 0, -1, 0, 1), Due.BAD);
        DUE.is("to 4", x.copy(0, 0, 4, 0, 1), Due.BAD);
    }

    private static void copyEdges() {
        WhiteSlope x = new WhiteSlope();
        x.sheet(0, 0, 5);
        x.sheet(1, 0, 3);
        x.mark(0, 0, 9);
        DUE.is("none, behind the last ones", x.copy(0, 5, 1, 3, 0), 0);
        DUE.is("none, further on", x.copy(0, 6, 1, 0, 0), Due.INDEX);
        DUE.is("none, further on there", x.copy(0, 0, 1, 4, 0), Due.INDEX);
        int[][] bad = {{-1, 0, 1}, {0, -1, 1}, {0, 0, -1}, {-1, 0, 0}, {0, -1, 0}, {5, 0, 1}, {0, 3, 1}, {3, 0, 3},
            {0, 0, 4}, {0, 1, 3}, {Due.HIGHEST, 0, 1}, {0, Due.HIGHEST, 1}, {0, 0, Due.HIGHEST}, {1, 1, Due.HIGHEST},
            {Due.LOWEST, 0, 1}, {0, Due.LOWEST, 1}, {0, 0, Due.LOWEST}};
        for (int[] b : bad) {
            DUE.is("INDEX " + b[0] + " " + b[1] + " " + b[2], x.copy(0, b[0], 1, b[1], b[2]), Due.INDEX);
        }
        row(x, 1, "nothing came", 0, 0, 0);
        DUE.is("all", x.copy(0, 0, 1, 0, 3), 3);
        row(x, 1, "it came", 9, 0, 0);
        x.sheet(2, 0, 0);
        DUE.is("none of none", x.copy(2, 0, 2, 0, 0), 0);
    }

    private static void lay() {
        WhiteSlope x = new WhiteSlope();
        x.sheet(0, 1, 2);
        x.mark(0, 1, 8);
        x.place(4, 1, 20, 30);
        int[] things = {1, 2, 3, 0, 3, 2, 1, 1};
        int held = 0;
        for (int thing : things) {
            DUE.is("what it held", x.lay(3, thing, thing == 1 ? 4 : 0), held);
            held = thing;
        }
        x.place(4, 5, 1, 2);
        DUE.is("a PLACE as it was then", x.ask(3, 1), 50);
        x.lay(2, 2, 0);
        x.mark(0, 1, 9);
        DUE.is("a SHEET as it was then", x.item(2, 1), 8);
        x.sheet(0, -1, 0);
        DUE.is("for good", x.item(2, 1), 8);
        DUE.is("MISSING", x.lay(2, 2, 0), Due.NOTHING);
        DUE.is("it stays", x.item(2, 1), 8);
        int[][] bad = {{-1, 0, 0}, {5, 0, 0}, {2, -1, 0}, {2, 4, 0}, {2, 1, -1}, {2, 1, 30}, {2, 2, -1}, {2, 2, 4}};
        for (int[] b : bad) {
            DUE.is("bad lay", x.lay(b[0], b[1], b[2]), Due.BAD);
        }
        DUE.is("it stays still", x.item(2, 1), 8);
        DUE.is("nothing, k any", x.lay(2, 0, Due.LOWEST), 2);
        DUE.is("a number, k any", x.lay(2, 3, Due.LOWEST), 0);
        DUE.is("the number", x.rest(2, 1000), Due.LOWEST % 1000);
    }

    private static void ask() {
        WhiteSlope x = new WhiteSlope();
        int[] worth = {40, 65, 20, 130, 29, 25};
        String[] under = {"100000", "110000", "101000", "110100", "101010", "100001"};
        for (int kind = 0; kind < 6; kind++) {
            x.place(8, kind, 40, 25);
            x.lay(0, 1, 8);
            for (int asked = 0; asked < 6; asked++) {
                DUE.is("KIND " + kind + " for " + asked, x.ask(0, asked),
                    under[kind].charAt(asked) == '1' ? worth[kind] : Due.KIND);
            }
        }
        x.lay(1, 3, 5);
        x.sheet(0, 0, 1);
        x.lay(2, 2, 0);
        DUE.is("a number", x.ask(1, 0), Due.KIND);
        DUE.is("a SHEET", x.ask(2, 0), Due.KIND);
        DUE.is("nothing", x.ask(3, 0), Due.NOTHING);
        DUE.is("BAD goes first", x.ask(3, 6), Due.BAD);
        DUE.is("kind -1", x.ask(0, -1), Due.BAD);
        DUE.is("slot -1", x.ask(-1, 0), Due.BAD);
        DUE.is("slot 5", x.ask(5, 0), Due.BAD);
    }

    private static void item() {
        WhiteSlope x = new WhiteSlope();
        x.sheet(0, 1, 2);
        x.mark(0, 0, -12);
        x.mark(0, 1, Due.NONE);
        x.lay(0, 2, 0);
        x.lay(1, 1, 0);
        x.lay(2, 3, 0);
        DUE.is("a place", x.item(0, 0), -12);
        DUE.is("NO NUMBER", x.item(0, 1), Due.KIND);
        DUE.is("behind the last one", x.item(0, 2), Due.INDEX);
        DUE.is("place -1", x.item(0, -1), Due.INDEX);
        DUE.is("a PLACE", x.item(1, 99), Due.KIND);
        DUE.is("a number", x.item(2, 0), Due.KIND);
        DUE.is("nothing", x.item(3, 99), Due.NOTHING);
        DUE.is("slot -1", x.item(-1, 0), Due.BAD);
        DUE.is("slot 5", x.item(5, 0), Due.BAD);
    }

    private static void rest() {
        WhiteSlope x = new WhiteSlope();
        x.lay(0, 3, -17);
        DUE.is("-17 by 5", x.rest(0, 5), -2);
        DUE.is("-17 by -5", x.rest(0, -5), -2);
        DUE.is("-17 by lowest", x.rest(0, Due.LOWEST), -17);
        DUE.is("by 0", x.rest(0, 0), Due.NO);
        x.lay(0, 3, Due.LOWEST);
        DUE.is("lowest by -1", x.rest(0, -1), 0);
        x.lay(1, 1, 0);
        DUE.is("KIND goes ahead of NO", x.rest(1, 0), Due.KIND);
        x.sheet(0, 0, 1);
        x.lay(2, 2, 0);
        DUE.is("a SHEET", x.rest(2, 1), Due.KIND);
        DUE.is("nothing", x.rest(3, 0), Due.NOTHING);
        DUE.is("slot -1", x.rest(-1, 0), Due.BAD);
        DUE.is("slot 5", x.rest(5, 0), Due.BAD);
    }
}
