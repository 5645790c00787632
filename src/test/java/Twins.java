import java.util.ArrayList;
import java.util.List;

/** Objects made alike: one of them is asked a call that is refused, and goes on as the one that was not. */
final class Twins {
    interface Call {
        long on(WhiteSlope x);
    }

    interface Make {
        void on(WhiteSlope x);
    }

    private Twins() {
    }

    /** An object with something everywhere: PLACES, day, TEXTS, TRACK, SHEETS, SLOTS, an IMAGE, a tape, numbers. */
    static WhiteSlope rich() {
        WhiteSlope x = new WhiteSlope();
        x.seed(77);
        x.deal();
        x.today(0, 3);
        x.today(1, 22);
        x.today(2, 8);
        Due.text(x, "hold 60-s+r");
        Due.text(x, "step 2+u*3");
        x.track(9);
        x.track(8);
        x.track(14);
        x.keep();
        // Behind an IMAGE these are THE TICKS TOLD, so that check can see whether they wait as they were told.
        int slides = x.run(1);
        x.tell(slides);
        x.tell(x.count(0));
        slides = x.run(1);
        x.tell(slides);
        x.tell(x.count(0));
        x.place(20, 3, 41, 55);
        x.track(15);
        sheetsAndSlots(x);
        Due.feed(x, "risk 31+s");
        return x;
    }

    private static void sheetsAndSlots(WhiteSlope x) {
        x.sheet(0, 0, 3);
        x.mark(0, 0, 70);
        x.mark(0, 2, -3);
        x.sheet(1, 1, 4);
        x.mark(1, 1, Due.NONE);
        x.mark(1, 3, 99999);
        x.sheet(2, 1, 0);
        x.lay(0, 1, 20);
        x.lay(1, 2, 1);
        x.lay(2, 3, -17);
        x.lay(4, 2, 0);
    }

    /** A call on a rich object is refused so, and changes nothing. */
    static void refused(Due due, String which, long want, Call call) {
        refused(due, which, want, x -> { }, call);
    }

    /** The same, behind some more calls on it. */
    static void refused(Due due, String which, long want, Make more, Call call) {
        WhiteSlope asked = rich();
        WhiteSlope left = rich();
        more.on(asked);
        more.on(left);
        due.is(which, call.on(asked), want);
        alike(due, which + ": changes nothing", asked, left);
    }

    /** Two objects answer the same to all that can be asked (both are spent by it). */
    static void alike(Due due, String which, WhiteSlope one, WhiteSlope other) {
        List<Long> a = told(one);
        List<Long> b = told(other);
        int same = 0;
        while (same < a.size() && same < b.size() && a.get(same).equals(b.get(same))) {
            same++;
        }
        due.is(which + " (answers alike)", same, Math.max(a.size(), b.size()));
    }

    private static List<Long> told(WhiteSlope x) {
        List<Long> all = new ArrayList<>();
        tellKept(x, all);
        for (int i = 0; i < x.count(6); i++) {
            all.add((long) x.textTold(i, 0));
            all.add((long) x.textTold(i, 1));
        }
        for (int slot = 0; slot < 5; slot++) {
            tellSlot(x, slot, all);
        }
        for (int sheet = 0; sheet < 4; sheet++) {
            tellSheet(x, sheet, all);
        }
        all.add((long) x.ahead(3, 0));
        all.add((long) x.calm());
        all.add((long) x.check(2));
        all.add((long) x.text());
        all.add((long) x.told(7, 3));
        all.add((long) x.back());
        tellKept(x, all);
        return all;
    }

    /** What an IMAGE keeps, and the other counts. */
    private static void tellKept(WhiteSlope x, List<Long> all) {
        for (int what = 0; what < 10; what++) {
            all.add((long) x.count(what));
        }
        for (int cell = 0; cell < 30; cell++) {
            // WORTH, RISK and the like follow from these.
            all.add((long) x.told(cell, 0));
            all.add((long) x.told(cell, 1));
            all.add((long) x.told(cell, 2));
        }
        for (int i = 0; i < x.count(5); i++) {
            all.add((long) x.at(i));
        }
        for (int key = 0; key < 3; key++) {
            all.add((long) x.why(key));
        }
    }

    private static void tellSlot(WhiteSlope x, int slot, List<Long> all) {
        int worth = x.ask(slot, 0);
        int number = x.rest(slot, Due.HIGHEST);
        all.add((long) worth);
        all.add((long) number);
        if (worth == Due.KIND && number == Due.KIND) {
            tellPlaces(x, slot, all);
        }
    }

    private static void tellPlaces(WhiteSlope x, int slot, List<Long> all) {
        for (int place = 0; place <= 24; place++) {
            int item = x.item(slot, place);
            all.add((long) item);
            if (item == Due.INDEX) {
                return;
            }
        }
    }

    private static void tellSheet(WhiteSlope x, int sheet, List<Long> all) {
        int held = x.lay(4, 2, sheet);
        all.add((long) held);
        if (held != Due.NOTHING) {
            tellPlaces(x, 4, all);
            // A sort shows in what may be marked; without places, in what can be copied to a row of shorts.
            all.add((long) x.mark(sheet, 0, Due.NONE));
            x.sheet(0, 0, 1);
            all.add((long) x.copy(sheet, 0, 0, 0, 0));
        }
    }
}
