import java.math.BigInteger;
import java.util.ArrayDeque;
import java.util.ArrayList;
import java.util.Arrays;
import java.util.Deque;
import java.util.List;

/** The document told once more, as simply as can be and by other ways of working it out; ModelTest asks both. */
final class PlainSlope {
    private static final int BAD = Due.BAD, NO = Due.NO, FULL = Due.FULL, NONE = Due.NONE;
    private static final int NOTHING = Due.NOTHING, KIND = Due.KIND, INDEX = Due.INDEX, SIZE = Due.SIZE;

    /** What an IMAGE keeps. */
    private static final class World {
        int[][] cells = new int[30][3];
        int[] day = {2, 6, 3};
        int z = 1;
        int slid;
        List<Integer> track = new ArrayList<>();
        List<List<String>> texts = new ArrayList<>();

        World copy() {
            World w = new World();
            for (int i = 0; i < 30; i++) {
                w.cells[i] = cells[i].clone();
            }
            w.day = day.clone();
            w.z = z;
            w.slid = slid;
            w.track = new ArrayList<>(track);
            w.texts = new ArrayList<>(texts);
            return w;
        }

        int draw() {
            z = z * 1103515245 + 12345;
            return z >>> 8;
        }

        int allLoad() {
            return Arrays.stream(cells).mapToInt(c -> c[2]).sum();
        }

        int sun() {
            return day[1] < 9 ? 0 : day[1] - 9;
        }

        List<String> lastText(String key) {
            List<String> last = null;
            for (List<String> t : texts) {
                last = t.get(0).equals(key) ? t : last;
            }
            return last;
        }

        int plainRisk(int cell) {
            int steep = cells[cell][1];
            int load = cells[cell][2];
            List<String> t = lastText("risk");
            if (t != null) {
                return held(worth(t, steep, load, day[0]), 999);
            }
            return steep < 30 ? 0 : (steep - 29) * day[0] + load / 10;
        }

        int above(int cell) {
            int most = 0;
            for (int c = 29; c > cell; c--) {
                most = c % 6 == cell % 6 ? Math.max(most, plainRisk(c)) : most;
            }
            return most;
        }

        int riskAs(int cell, int kind) {
            return switch (kind) {
                case 0 -> plainRisk(cell);
                case 1 -> riskAs(cell, 0) + above(cell) / 2;
                case 2 -> riskAs(cell, 0) / 2;
                case 3 -> 2 * riskAs(cell, 1);
                case 4 -> riskAs(cell, 2) + sun();
                default -> riskAs(cell, 0) / 3;
            };
        }

        int risk(int cell) {
            return riskAs(cell, cells[cell][0]);
        }

        int holdAs(int cell, int kind) {
            List<String> t = lastText("hold");
            int steep = cells[cell][1];
            return switch (kind) {
                case 2 -> holdAs(cell, 0) + 5;
                case 4 -> holdAs(cell, 2) - sun();
                case 5 -> holdAs(cell, 0) + 20;
                default -> held(t == null ? 70 - steep : worth(t, steep, cell / 6, 0), 99);
            };
        }

        int step(int from, int to) {
            boolean up = to - from == 6;
            List<String> t = lastText("step");
            int steep = cells[to][1];
            return held(t == null ? 1 + steep / 10 + (up ? 2 : 0) : worth(t, steep, up ? 1 : 0, 0), 99);
        }

        int tick() {
            int more = day[2] + draw() % 3;
            int[] loads = new int[30];
            for (int c = 0; c < 30; c++) {
                loads[c] = Math.min(999, cells[c][2] + more);
            }
            int[] drifted = loads.clone();
            for (int c = 0; c < 30; c++) {
                int goes = cells[c][0] == 5 || loads[c] <= 20 ? 0 : (loads[c] - 20) / 10;
                drifted[c] -= goes;
                if (c % 6 != 5) {
                    drifted[c + 1] += goes;
                }
            }
            for (int c = 0; c < 30; c++) {
                cells[c][2] = Math.min(999, drifted[c]);
            }
            int slides = 0;
            int[] order = {24, 25, 26, 27, 28, 29, 18, 19, 20, 21, 22, 23, 12, 13, 14, 15, 16, 17, 6, 7, 8, 9, 10, 11,
                0, 1, 2, 3, 4, 5};
            for (int c : order) {
                if (cells[c][1] >= 30 && cells[c][2] > holdAs(c, cells[c][0])) {
                    slides++;
                    if (c >= 6) {
                        cells[c - 6][2] += cells[c][2];
                    }
                    cells[c][2] = 0;
                }
            }
            for (int c = 0; c < 30; c++) {
                cells[c][2] = Math.min(999, cells[c][2]);
            }
            slid += slides;
            day[1] = (day[1] + 1) % 24;
            return slides;
        }
    }

    private World now = new World();
    private World image;
    private final List<Integer> tape = new ArrayList<>();
    private final List<Integer> waiting = new ArrayList<>();
    private final short[][] shorts = new short[4][];
    private final float[][] floats = new float[4][];
    private final Object[] slots = new Object[5];

    private static int held(int v, int most) {
        return v < 0 ? 0 : v > most ? most : v;
    }

    private static boolean in(int v, int least, int most) {
        return least <= v && v <= most;
    }

    private static boolean under(int kind, int asked) {
        return kind == asked || asked == 0 || kind == 3 && asked == 1 || kind == 4 && asked == 2;
    }

    private static int worthOf(int[] place) {
        int steep = place[1];
        int load = place[2];
        return new int[] {steep, steep + load, 60 - steep, 2 * steep + 2 * load, 69 - steep, load}[place[0]];
    }

    private static List<Integer> beside(int cell) {
        List<Integer> all = new ArrayList<>();
        if (cell / 6 < 4) {
            all.add(cell + 6);
        }
        if (cell % 6 < 5) {
            all.add(cell + 1);
        }
        if (cell / 6 > 0) {
            all.add(cell - 6);
        }
        if (cell % 6 > 0) {
            all.add(cell - 1);
        }
        return all;
    }

    int place(int cell, int kind, int steep, int load) {
        if (!in(cell, 0, 29) || !in(kind, 0, 5) || !in(steep, 0, 60) || !in(load, 0, 999)) {
            return BAD;
        }
        int was = now.cells[cell][0];
        now.cells[cell] = new int[] {kind, steep, load};
        return was;
    }

    int told(int cell, int what) {
        if (!in(cell, 0, 29) || !in(what, 0, 7)) {
            return BAD;
        }
        return switch (what) {
            case 3 -> now.plainRisk(cell);
            case 4 -> now.above(cell);
            case 5 -> now.risk(cell);
            case 6 -> now.holdAs(cell, now.cells[cell][0]);
            case 7 -> worthOf(now.cells[cell]);
            default -> now.cells[cell][what];
        };
    }

    int as(int cell, int kind) {
        if (!in(cell, 0, 29) || !in(kind, 0, 5)) {
            return BAD;
        }
        return under(now.cells[cell][0], kind) ? now.cells[cell][1] : KIND;
    }

    int turns(int cell, int kind) {
        if (!in(cell, 0, 29)) {
            return BAD;
        }
        return place(cell, kind, now.cells[cell][1], now.cells[cell][2]);
    }

    int set(int cell, int what, int v) {
        if (!in(cell, 0, 29) || !in(what, 0, 1) || !in(v, 0, what == 0 ? 60 : 999)) {
            return BAD;
        }
        int was = now.cells[cell][what + 1];
        now.cells[cell][what + 1] = v;
        return was;
    }

    int today(int what, int v) {
        if (!in(what, 0, 2) || !in(v, 0, new int[] {5, 23, 9}[what])) {
            return BAD;
        }
        int was = now.day[what];
        now.day[what] = v;
        return was;
    }

    int deal() {
        for (int i = 0; i < 90; i++) {
            now.cells[i / 3][i % 3] = now.draw() % new int[] {6, 50, 40}[i % 3];
        }
        return now.allLoad();
    }

    int seed(int v) {
        int was = now.z;
        now.z = v;
        return was;
    }

    int run(int n) {
        if (!in(n, 1, 48)) {
            return BAD;
        }
        int before = now.slid;
        for (int i = 0; i < n; i++) {
            now.tick();
        }
        return now.slid - before;
    }

    int ahead(int n, int what) {
        if (!in(n, 0, 48) || !in(what, 0, 3)) {
            return BAD;
        }
        World w = now.copy();
        for (int i = 0; i < n; i++) {
            w.tick();
        }
        int most = Arrays.stream(w.cells).mapToInt(c -> c[2]).max().orElse(0);
        int first = 0;
        while (w.cells[first][2] != most) {
            first++;
        }
        return new int[] {w.allLoad(), w.slid - now.slid, most, first}[what];
    }

    int calm() {
        World w = now.copy();
        for (int i = 1; i <= 48; i++) {
            if (w.tick() > 0) {
                return i;
            }
        }
        return NONE;
    }

    int track(int cell) {
        if (!in(cell, 0, 29)) {
            return BAD;
        }
        List<Integer> t = now.track;
        if (!t.isEmpty() && !beside(t.get(t.size() - 1)).contains(cell)) {
            return NO;
        }
        if (t.size() == 24) {
            return FULL;
        }
        t.add(cell);
        return t.size();
    }

    int wipe() {
        int had = now.track.size();
        now.track.clear();
        return had;
    }

    int at(int i) {
        return i < 0 ? BAD : i < now.track.size() ? now.track.get(i) : NONE;
    }

    int along(int what) {
        if (!in(what, 0, 4)) {
            return BAD;
        }
        List<Integer> t = now.track;
        if (t.isEmpty()) {
            return NONE;
        }
        int risk = 0;
        int breath = 0;
        int turned = 0;
        for (int i = 1; i < t.size(); i++) {
            risk += now.risk(t.get(i));
            breath += now.step(t.get(i - 1), t.get(i));
            turned += i > 1 && t.get(i) + t.get(i - 2) != 2 * t.get(i - 1) ? 1 : 0;
        }
        int steepest = t.stream().mapToInt(c -> now.cells[c][1]).max().orElse(0);
        int riskiest = t.stream().mapToInt(c -> now.risk(c)).max().orElse(0);
        return new int[] {risk, breath, turned, steepest, riskiest}[what];
    }

    int turnBack(int r) {
        if (!in(r, 0, 99999)) {
            return BAD;
        }
        for (int i = 0; i < now.track.size(); i++) {
            if (now.risk(now.track.get(i)) > r) {
                return i;
            }
        }
        return NONE;
    }

    /** The least RISKS from each CELL to one by exactly k steps, for k from 0 on. */
    private long[][] byExactSteps(int to, int most) {
        long[][] least = new long[most + 1][30];
        int[] risks = new int[30];
        for (int c = 0; c < 30; c++) {
            risks[c] = now.risk(c);
        }
        Arrays.fill(least[0], Integer.MAX_VALUE);
        least[0][to] = 0;
        for (int k = 1; k <= most; k++) {
            for (int c = 0; c < 30; c++) {
                long best = Integer.MAX_VALUE;
                for (int n : beside(c)) {
                    best = Math.min(best, least[k - 1][n] + risks[n]);
                }
                least[k][c] = best;
            }
        }
        return least;
    }

    private List<Integer> theWay(int from, int to) {
        long[][] least = byExactSteps(to, 29);
        int steps = 0;
        for (int k = 1; k < 30; k++) {
            steps = least[k][from] < least[steps][from] ? k : steps;
        }
        List<Integer> way = new ArrayList<>(List.of(from));
        int cell = from;
        for (int k = steps; k > 0; k--) {
            for (int n : beside(cell)) {
                if (least[k - 1][n] + now.risk(n) == least[k][cell]) {
                    cell = n;
                    break;
                }
            }
            way.add(cell);
        }
        return way;
    }

    int way(int from, int to, int what) {
        if (!in(from, 0, 29) || !in(to, 0, 29) || what < 0 || what > 2 && what < 10) {
            return BAD;
        }
        List<Integer> way = theWay(from, to);
        if (what >= 10) {
            return what - 10 < way.size() ? way.get(what - 10) : NONE;
        }
        int risk = 0;
        int breath = 0;
        for (int i = 1; i < way.size(); i++) {
            risk += now.risk(way.get(i));
            breath += now.step(way.get(i - 1), way.get(i));
        }
        return new int[] {risk, way.size() - 1, breath}[what];
    }

    int bound(int from, int to, int n) {
        if (!in(from, 0, 29) || !in(to, 0, 29) || !in(n, 0, 40)) {
            return BAD;
        }
        long best = Integer.MAX_VALUE;
        for (long[] least : byExactSteps(to, n)) {
            best = Math.min(best, least[from]);
        }
        return best == Integer.MAX_VALUE ? NONE : (int) best;
    }

    private boolean[] flood(int from, boolean[] open) {
        boolean[] seen = new boolean[30];
        Deque<Integer> todo = new ArrayDeque<>(List.of(from));
        seen[from] = true;
        while (!todo.isEmpty()) {
            for (int n : beside(todo.pop())) {
                if (open[n] && !seen[n]) {
                    seen[n] = true;
                    todo.push(n);
                }
            }
        }
        return seen;
    }

    int wall(int from, int to) {
        if (!in(from, 0, 29) || !in(to, 0, 29)) {
            return BAD;
        }
        for (int t = 0;; t++) {
            boolean[] open = new boolean[30];
            for (int c = 0; c < 30; c++) {
                open[c] = now.cells[c][1] <= t;
            }
            if (open[from] && open[to] && flood(from, open)[to]) {
                return t;
            }
        }
    }

    int reach(int cell, int r) {
        if (!in(cell, 0, 29) || !in(r, 0, 99999)) {
            return BAD;
        }
        boolean[] open = new boolean[30];
        for (int c = 0; c < 30; c++) {
            open[c] = now.risk(c) <= r;
        }
        int many = 0;
        for (boolean seen : flood(cell, open)) {
            many += seen ? 1 : 0;
        }
        return many;
    }

    long odds(int p, int m, int part) {
        if (!in(p, 0, 100) || !in(m, 0, 12) || !in(part, 0, 1)) {
            return BAD;
        }
        BigInteger above = BigInteger.valueOf(3).pow(m).multiply(BigInteger.valueOf(p));
        BigInteger below = above.add(BigInteger.valueOf(100 - p));
        return (part == 0 ? above : below).divide(above.gcd(below)).longValueExact();
    }

    int feed(int a, int b, int c) {
        if (tape.size() > 84) {
            return FULL;
        }
        for (int v : new int[] {a, b, c}) {
            tape.addAll(List.of(v >>> 24, v >>> 16 & 255, v >>> 8 & 255, v & 255));
        }
        return tape.size();
    }

    int trim(int n) {
        if (n < 0 || n > tape.size()) {
            return BAD;
        }
        tape.subList(n, tape.size()).clear();
        return n;
    }

    /** The words and signs of THE TAPE without blanks; places gets where each one begins, and the end. */
    private List<String> words(List<Integer> places) {
        List<String> words = new ArrayList<>();
        String last = " ";
        for (int i = 0; i < tape.size(); i++) {
            String b = String.valueOf((char) (int) tape.get(i));
            boolean goesOn = b.matches("[a-z]") && last.matches("[a-z]") || b.matches("[0-9]") && last.matches("[0-9]");
            if (goesOn) {
                words.set(words.size() - 1, words.get(words.size() - 1) + b);
            } else if (!b.equals(" ")) {
                words.add(b);
                places.add(i);
            }
            last = b;
        }
        places.add(tape.size());
        return words;
    }

    /** Goes over the words with what is open alone: which word is the first with which no TEXT goes on; -1: none. */
    private static int firstWrong(List<String> words, List<Integer> places) {
        String names = "";
        // One level for each ( that is open: how many ! wait in it, and whether its TEST has a sign already.
        Deque<int[]> open = new ArrayDeque<>(List.of(new int[2]));
        boolean wantsPiece = true;
        for (int i = 0; i < words.size(); i++) {
            String w = words.get(i);
            int waitingNots = open.stream().mapToInt(o -> o[0]).sum();
            if (i == 0) {
                names = w.equals("risk") ? "sld" : w.equals("hold") ? "sr" : w.equals("step") ? "su" : "";
                if (names.isEmpty()) {
                    return 0;
                }
            } else if (wantsPiece && w.equals("(") && open.size() <= 8) {
                open.push(new int[2]);
            } else if (wantsPiece && w.equals("!") && waitingNots < 8) {
                open.peek()[0]++;
            } else if (wantsPiece && (w.matches("[0-9]{1,4}") || w.length() == 1 && names.contains(w))
                    && !(i == 1 && places.get(1) == places.get(0) + 4)) {
                open.peek()[0] = 0;
                wantsPiece = false;
            } else if (!wantsPiece && w.equals(")") && open.size() > 1) {
                open.pop();
                open.peek()[0] = 0;
            } else if (!wantsPiece && "+-*/".contains(w)) {
                wantsPiece = true;
            } else if (!wantsPiece && "&|".contains(w)) {
                open.peek()[1] = 0;
                wantsPiece = true;
            } else if (!wantsPiece && "<=>".contains(w) && open.peek()[1] == 0) {
                open.peek()[1] = 1;
                wantsPiece = true;
            } else {
                return i;
            }
        }
        return wantsPiece || open.size() > 1 ? words.size() : -1;
    }

    int text() {
        List<Integer> places = new ArrayList<>();
        List<String> words = words(places);
        int wrong = firstWrong(words, places);
        tape.clear();
        if (wrong >= 0) {
            return -100 - places.get(wrong);
        }
        if (now.texts.size() == 14) {
            return FULL;
        }
        now.texts.add(words);
        return now.texts.size() - 1;
    }

    private static int worth(List<String> text, int s, int second, int d) {
        return worthOf(text.subList(1, text.size()), s, second, d);
    }

    /** Splits at the last sign of the loosest ones that no ( encloses. */
    private static int worthOf(List<String> e, int s, int second, int d) {
        for (String signs : List.of("|", "&", "<=>", "+-", "*/")) {
            int deep = 0;
            for (int i = e.size() - 1; i > 0; i--) {
                deep += e.get(i).equals(")") ? 1 : e.get(i).equals("(") ? -1 : 0;
                if (deep == 0 && signs.contains(e.get(i))) {
                    return joined(e.get(i), worthOf(e.subList(0, i), s, second, d),
                        worthOf(e.subList(i + 1, e.size()), s, second, d));
                }
            }
        }
        String first = e.get(0);
        return switch (first) {
            case "!" -> worthOf(e.subList(1, e.size()), s, second, d) == 0 ? 1 : 0;
            case "(" -> worthOf(e.subList(1, e.size() - 1), s, second, d);
            case "s" -> s;
            case "d" -> d;
            case "l", "r", "u" -> second;
            default -> Integer.parseInt(first);
        };
    }

    private static int joined(String sign, int a, int b) {
        return switch (sign) {
            case "|" -> a == 0 && b == 0 ? 0 : 1;
            case "&" -> a == 0 || b == 0 ? 0 : 1;
            case "<" -> a < b ? 1 : 0;
            case "=" -> a == b ? 1 : 0;
            case ">" -> a > b ? 1 : 0;
            case "+" -> a + b;
            case "-" -> a - b;
            case "*" -> a * b;
            default -> b == 0 ? 0 : a / b;
        };
    }

    int textTold(int text, int what) {
        if (!in(text, 0, now.texts.size() - 1) || !in(what, 0, 1)) {
            return BAD;
        }
        List<String> t = now.texts.get(text);
        if (what == 0) {
            return List.of("risk", "hold", "step").indexOf(t.get(0));
        }
        return (int) t.stream().filter(w -> w.matches("[0-9]+|[a-z]")).count();
    }

    int why(int key) {
        if (!in(key, 0, 2)) {
            return BAD;
        }
        for (int i = now.texts.size() - 1; i >= 0; i--) {
            if (textTold(i, 0) == key) {
                return i;
            }
        }
        return NONE;
    }

    private boolean missing(int sheet) {
        return shorts[sheet] == null && floats[sheet] == null;
    }

    private int sizeOf(int sheet) {
        return shorts[sheet] != null ? shorts[sheet].length : floats[sheet].length;
    }

    private Integer numberAt(int sheet, int place) {
        if (shorts[sheet] != null) {
            return (int) shorts[sheet][place];
        }
        return Float.isNaN(floats[sheet][place]) ? null : Integer.valueOf((int) floats[sheet][place]);
    }

    int sheet(int sheet, int sort, int n) {
        if (!in(sheet, 0, 3) || !in(sort, -1, 1) || sort != -1 && n > 24) {
            return BAD;
        }
        if (sort != -1 && n < 0) {
            return SIZE;
        }
        shorts[sheet] = sort == 0 ? new short[n] : null;
        floats[sheet] = sort == 1 ? new float[n] : null;
        return sort == -1 ? 0 : n;
    }

    int mark(int sheet, int place, int v) {
        if (!in(sheet, 0, 3)) {
            return BAD;
        }
        if (missing(sheet)) {
            return NOTHING;
        }
        if (!in(place, 0, sizeOf(sheet) - 1)) {
            return INDEX;
        }
        if (shorts[sheet] != null) {
            if (v == NONE) {
                return KIND;
            }
            shorts[sheet][place] = (short) v;
            return 1;
        }
        if (v != NONE && !in(v, -99999, 99999)) {
            return BAD;
        }
        floats[sheet][place] = v == NONE ? Float.NaN : v;
        return 1;
    }

    int pour(int sheet, int row) {
        if (!in(sheet, 0, 3) || !in(row, 0, 4)) {
            return BAD;
        }
        if (missing(sheet)) {
            return NOTHING;
        }
        int changed = 0;
        for (int i = 0; i < Math.min(6, sizeOf(sheet)); i++) {
            Integer v = numberAt(sheet, i);
            if (v != null) {
                changed += set(row * 6 + i, 1, held(v, 999)) != held(v, 999) ? 1 : 0;
            }
        }
        return changed;
    }

    int reads(int sheet) {
        if (!in(sheet, 0, 3)) {
            return BAD;
        }
        if (missing(sheet)) {
            return NOTHING;
        }
        for (int i = 0; i < sizeOf(sheet); i++) {
            Integer v = numberAt(sheet, i);
            if (v != null && v != now.risk(i)) {
                return i;
            }
        }
        return NONE;
    }

    /** As System.arraycopy does it, whose findings are told by exceptions. */
    int copy(int from, int place, int to, int at, int many) {
        if (!in(from, 0, 3) || !in(to, 0, 3)) {
            return BAD;
        }
        Object source = shorts[from] != null ? shorts[from] : floats[from];
        Object target = shorts[to] != null ? shorts[to] : floats[to];
        try {
            System.arraycopy(source, place, target, at, many);
        } catch (NullPointerException e) {
            return NOTHING;
        } catch (ArrayStoreException e) {
            return KIND;
        } catch (IndexOutOfBoundsException e) {
            return INDEX;
        }
        return many;
    }

    int lay(int slot, int thing, int k) {
        if (!in(slot, 0, 4) || !in(thing, 0, 3) || thing == 1 && !in(k, 0, 29) || thing == 2 && !in(k, 0, 3)) {
            return BAD;
        }
        if (thing == 2 && missing(k)) {
            return NOTHING;
        }
        Object had = slots[slot];
        slots[slot] = switch (thing) {
            case 1 -> now.cells[k].clone();
            case 2 -> shorts[k] != null ? shorts[k].clone() : floats[k].clone();
            case 3 -> Integer.valueOf(k);
            default -> null;
        };
        return had == null ? 0 : had instanceof int[] ? 1 : had instanceof Integer ? 3 : 2;
    }

    int ask(int slot, int kind) {
        if (!in(slot, 0, 4) || !in(kind, 0, 5)) {
            return BAD;
        }
        if (slots[slot] == null) {
            return NOTHING;
        }
        return slots[slot] instanceof int[] place && under(place[0], kind) ? worthOf(place) : KIND;
    }

    int item(int slot, int place) {
        if (!in(slot, 0, 4)) {
            return BAD;
        }
        if (slots[slot] == null) {
            return NOTHING;
        }
        if (slots[slot] instanceof short[] row) {
            return in(place, 0, row.length - 1) ? row[place] : INDEX;
        }
        if (slots[slot] instanceof float[] row) {
            return !in(place, 0, row.length - 1) ? INDEX : Float.isNaN(row[place]) ? KIND : (int) row[place];
        }
        return KIND;
    }

    int rest(int slot, int n) {
        if (!in(slot, 0, 4)) {
            return BAD;
        }
        if (slots[slot] == null) {
            return NOTHING;
        }
        if (!(slots[slot] instanceof Integer v)) {
            return KIND;
        }
        return n == 0 ? NO : (int) ((long) v % n);
    }

    int tell(int v) {
        if (waiting.size() == 60) {
            return FULL;
        }
        waiting.add(v);
        return waiting.size();
    }

    int check(int n) {
        List<Integer> told = new ArrayList<>(waiting);
        waiting.clear();
        if (!in(n, 1, 30)) {
            return BAD;
        }
        if (image == null) {
            return NO;
        }
        World w = image.copy();
        List<Integer> due = new ArrayList<>();
        for (int i = 0; i < n; i++) {
            due.add(w.tick());
            due.add(w.allLoad());
        }
        if (told.equals(due)) {
            return 0;
        }
        int same = 0;
        while (same < told.size() && same < due.size() && told.get(same).equals(due.get(same))) {
            same++;
        }
        return 1 + same;
    }

    int keep() {
        image = now.copy();
        return now.allLoad();
    }

    int back() {
        if (image == null) {
            return NO;
        }
        now = image.copy();
        return now.allLoad();
    }

    int count(int what) {
        if (!in(what, 0, 9)) {
            return BAD;
        }
        return new int[] {now.allLoad(), now.slid, now.day[0], now.day[1], now.day[2], now.track.size(),
            now.texts.size(), waiting.size(), tape.size(), now.z}[what];
    }
}
