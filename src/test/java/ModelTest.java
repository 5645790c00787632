import java.lang.reflect.InvocationTargetException;
import java.lang.reflect.Method;
import java.lang.reflect.Modifier;
import java.util.ArrayList;
import java.util.Arrays;
import java.util.Comparator;
import java.util.List;
import java.util.Random;

/** All promises: runs of calls by lot (always the same ones), each answered by WhiteSlope and by PlainSlope alike. */
public final class ModelTest {
    private static final Due DUE = new Due("ModelTest");
    private static final int RUNS = Integer.getInteger("runs", 600);
    private static final int CALLS = 512;
    private static final int[] EDGES = {Due.LOWEST, Due.HIGHEST, -1, 0, 1, 5, 6, 9, 24, 25, 29, 30, 48, 49, 60, 61, 96,
        999, 1000, 99999, 100000, -99999, -100000, Due.NONE, Due.BAD, 32768, 65535};

    // What is called in a run: all; sheets and slots; the track and ways; texts.
    private static final String[] MODES = {"",
        " mark pour reads copy lay ask item rest place ",
        " track at along turnBack way bound wall reach told today run ",
        " told along track way reach why textTold count ahead calm run "};

    private final Random lot;
    private final WhiteSlope x = new WhiteSlope();
    private final PlainSlope plain = new PlainSlope();
    private final List<String> calls = new ArrayList<>();
    private boolean right = true;

    private ModelTest(int seed) {
        lot = new Random(seed);
    }

    public static void main(String[] args) throws ReflectiveOperationException {
        List<Method> face = new ArrayList<>();
        for (Method m : WhiteSlope.class.getDeclaredMethods()) {
            if (Modifier.isPublic(m.getModifiers())) {
                face.add(m);
            }
        }
        face.sort(Comparator.comparing(Method::getName));
        for (int run = 0; run < RUNS; run++) {
            new ModelTest(run).run(face, run % MODES.length);
        }
        DUE.end();
    }

    private void run(List<Method> face, int mode) throws ReflectiveOperationException {
        List<Method> often = new ArrayList<>();
        for (Method m : face) {
            int many = MODES[mode].isEmpty() || MODES[mode].contains(" " + m.getName() + " ") ? 1 + lot.nextInt(8) : 0;
            for (int i = 0; i < many; i++) {
                often.add(m);
            }
        }
        if (lot.nextInt(3) > 0) {
            call("seed", lot.nextInt());
            call("deal");
        }
        for (int sheet = 0; sheet < 4; sheet++) {
            call("sheet", sheet, lot.nextInt(2), lot.nextInt(25));
        }
        while (calls.size() < CALLS && right) {
            int what = lot.nextInt(mode == 0 ? 20 : 60);
            if (what == 0 || mode == 3 && what < 20) {
                text();
            } else if (what == 1) {
                steep();
            } else if (what == 2 && mode == 0) {
                ticksTold();
            } else {
                Method m = often.get(lot.nextInt(often.size()));
                int[] a = new int[m.getParameterCount()];
                for (int i = 0; i < a.length; i++) {
                    a[i] = number(m.getName(), i);
                }
                call(m.getName(), a);
            }
        }
    }

    private void steep() throws ReflectiveOperationException {
        for (int i = 0; i < 4; i++) {
            call("place", lot.nextInt(30), lot.nextInt(6), 25 + lot.nextInt(36), lot.nextInt(lot.nextBoolean() ? 60 : 1000));
        }
    }

    private void ticksTold() throws ReflectiveOperationException {
        if (lot.nextInt(3) == 0) {
            call("keep");
        }
        if (plain.count(7) > 0) {
            call("check", 1);
        }
        // Behind back, what is ahead is what THE IMAGE has ahead.
        int n = 1 + lot.nextInt(4);
        int wrong = lot.nextInt(3 * n);
        call("back");
        for (int i = 0; i < n; i++) {
            int before = i == 0 ? 0 : plain.ahead(i, 1);
            call("tell", plain.ahead(i + 1, 1) - before + (2 * i == wrong ? 1 : 0));
            call("tell", plain.ahead(i + 1, 0) + (2 * i + 1 == wrong ? 1 : 0));
        }
        if (lot.nextBoolean()) {
            call("run", 7);
        }
        call("check", n + (lot.nextInt(6) == 0 ? lot.nextInt(3) - 1 : 0));
    }

    private void text() throws ReflectiveOperationException {
        String[] keys = {"risk", "hold", "step"};
        int key = lot.nextInt(3);
        StringBuilder text = new StringBuilder(keys[key]).append(' ');
        expression(text, new String[] {"sld", "sr", "su"}[key], 0);
        int changes = lot.nextInt(3) == 0 ? 1 + lot.nextInt(2) : 0;
        for (int i = 0; i < changes; i++) {
            change(text);
        }
        if (text.length() > 96) {
            text.setLength(96);
        }
        call("trim", 0);
        for (int i = 0; i < text.length(); i += 12) {
            String t = text.toString();
            call("feed", Due.four(t, i), Due.four(t, i + 4), Due.four(t, i + 8));
        }
        call("trim", text.length());
        call("text");
    }

    private void expression(StringBuilder out, String names, int deep) {
        int pieces = 1 + lot.nextInt(deep > 2 ? 2 : 5);
        for (int i = 0; i < pieces; i++) {
            out.append(i == 0 ? "" : String.valueOf("|&<=>+-*/".charAt(lot.nextInt(9))));
            out.append(lot.nextInt(6) == 0 ? " " : "");
            while (lot.nextInt(5) == 0) {
                out.append('!');
            }
            int sort = lot.nextInt(6);
            if (sort == 0 && deep < 9) {
                out.append('(');
                expression(out, names, deep + 1);
                out.append(')');
            } else if (sort < 3) {
                out.append(lot.nextInt(new int[] {4, 10, 100, 10000}[lot.nextInt(4)]));
            } else {
                out.append(names.charAt(lot.nextInt(names.length())));
            }
        }
    }

    private void change(StringBuilder text) {
        String signs = "()!+-*/<=>&| 019sldruaz#`{:";
        int place = lot.nextInt(text.length() + 1);
        char c = lot.nextInt(10) == 0 ? (char) lot.nextInt(256) : signs.charAt(lot.nextInt(signs.length()));
        switch (lot.nextInt(4)) {
            case 0 -> text.insert(place, c);
            case 1 -> text.insert(place, String.valueOf(c).repeat(1 + lot.nextInt(9)));
            case 2 -> text.setLength(place);
            default -> text.replace(place, Math.min(text.length(), place + 1), String.valueOf(c));
        }
    }

    private int number(String call, int i) {
        int way = lot.nextInt(40);
        if (way == 0) {
            return EDGES[lot.nextInt(EDGES.length)];
        }
        if (way == 1) {
            return lot.nextInt();
        }
        int below = switch (call + i) {
            case "place0", "told0", "as0", "turns0", "set0", "way0", "way1", "bound0", "bound1", "wall0", "wall1",
                "reach0" -> 31;
            case "lay2" -> lot.nextBoolean() ? 5 : 31;
            case "track0" -> 30;
            case "place2" -> 62;
            case "place3", "set2" -> lot.nextBoolean() ? 62 : 1001;
            case "way2" -> lot.nextBoolean() ? 4 : 30;
            case "bound2", "run0", "ahead0" -> 50;
            case "turnBack0", "reach1" -> new int[] {3, 100, 3000}[lot.nextInt(3)];
            case "odds0" -> 102;
            case "odds1" -> 14;
            case "check0" -> 33;
            case "trim0" -> 100;
            case "sheet2", "mark1", "copy1", "copy3", "copy4", "item1" -> lot.nextBoolean() ? 5 : 26;
            case "at0" -> 26;
            case "today1" -> new int[] {6, 25, 10}[lot.nextInt(3)];
            case "textTold0" -> 15;
            case "sheet0", "mark0", "pour0", "reads0", "copy0", "copy2" -> 5;
            default -> 7;
        };
        int v = lot.nextInt(below);
        if (call.equals("sheet") && i == 1) {
            return lot.nextInt(4) - 1;
        }
        if (call.equals("mark") && i == 2) {
            return lot.nextInt(4) == 0 ? Due.NONE : lot.nextInt(2000) - 500;
        }
        return call.equals("track") && lot.nextInt(8) > 0 ? besideLast(v) : v;
    }

    private int besideLast(int otherwise) {
        int many = plain.count(5);
        return many == 0 ? otherwise : plain.at(many - 1) + new int[] {6, 1, -6, -1}[lot.nextInt(4)];
    }

    private void call(String name, int... a) throws ReflectiveOperationException {
        Class<?>[] types = new Class<?>[a.length];
        Arrays.fill(types, int.class);
        Object[] given = Arrays.stream(a).boxed().toArray();
        calls.add(name + Arrays.toString(a));
        Object want = PlainSlope.class.getDeclaredMethod(name, types).invoke(plain, given);
        Object got;
        try {
            got = WhiteSlope.class.getDeclaredMethod(name, types).invoke(x, given);
        } catch (InvocationTargetException e) {
            System.out.println(calls + " threw " + e.getCause());
            got = want instanceof Long ? (Object) Long.MIN_VALUE : (Object) Integer.MIN_VALUE;
        }
        boolean same = got.equals(want);
        if (!same && right) {
            right = false;
            DUE.is("run " + calls, ((Number) got).longValue(), ((Number) want).longValue());
        } else if (same) {
            DUE.holds(name, true);
        }
    }
}
