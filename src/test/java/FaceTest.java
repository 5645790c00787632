import java.io.IOException;
import java.lang.reflect.Constructor;
import java.lang.reflect.Field;
import java.lang.reflect.Method;
import java.lang.reflect.Modifier;
import java.nio.charset.StandardCharsets;
import java.nio.file.Files;
import java.nio.file.Path;
import java.util.Set;
import java.util.TreeSet;
import java.util.regex.Matcher;
import java.util.regex.Pattern;

/** The face is the document's and no more; the source keeps to those rules of LANGUAGE.md that can be seen in its words. */
public final class FaceTest {
    private static final Due DUE = new Due("FaceTest");
    private static final String FACE = "int place(int,int,int,int);int told(int,int);int as(int,int);int turns(int,int);"
        + "int set(int,int,int);int today(int,int);int deal();int seed(int);int run(int);int ahead(int,int);int calm();"
        + "int track(int);int wipe();int at(int);int along(int);int turnBack(int);int way(int,int,int);"
        + "int bound(int,int,int);int wall(int,int);int reach(int,int);long odds(int,int,int);int feed(int,int,int);"
        + "int trim(int);int text();int textTold(int,int);int why(int);int sheet(int,int,int);int mark(int,int,int);"
        + "int pour(int,int);int reads(int);int copy(int,int,int,int,int);int lay(int,int,int);int ask(int,int);"
        + "int item(int,int);int rest(int,int);int tell(int);int check(int);int keep();int back();int count(int)";

    public static void main(String[] args) throws IOException, IllegalAccessException {
        face();
        constants();
        words(Files.readString(Path.of("src/main/java/WhiteSlope.java"), StandardCharsets.ISO_8859_1));
        DUE.end();
    }

    private static void face() {
        Set<String> seen = new TreeSet<>();
        Set<String> names = new TreeSet<>();
        for (Method m : WhiteSlope.class.getDeclaredMethods()) {
            if (Modifier.isPrivate(m.getModifiers())) {
                continue;
            }
            StringBuilder types = new StringBuilder();
            for (Class<?> type : m.getParameterTypes()) {
                types.append(types.isEmpty() ? "" : ",").append(type);
            }
            DUE.holds(m + " is public and no more", m.getModifiers() == Modifier.PUBLIC);
            seen.add(m.getReturnType() + " " + m.getName() + "(" + types + ")");
            names.add(m.getName());
        }
        Set<String> due = new TreeSet<>(Set.of(FACE.split(";")));
        DUE.holds("the methods are " + due + ", not " + seen, seen.equals(due));
        for (Method m : WhiteSlope.class.getDeclaredMethods()) {
            DUE.holds("private " + m.getName() + " bears no public name",
                !Modifier.isPrivate(m.getModifiers()) || !names.contains(m.getName()));
        }
        Constructor<?>[] constructors = WhiteSlope.class.getDeclaredConstructors();
        DUE.is("constructors", constructors.length, 1);
        DUE.is("its parameters", constructors[0].getParameterCount(), 0);
        DUE.holds("the class is public and final", WhiteSlope.class.getModifiers() == (Modifier.PUBLIC | Modifier.FINAL));
        for (Class<?> inside : WhiteSlope.class.getDeclaredClasses()) {
            DUE.holds(inside + " is static and not public",
                Modifier.isStatic(inside.getModifiers()) && !Modifier.isPublic(inside.getModifiers()));
            inside(inside, names);
        }
        fields(WhiteSlope.class);
        DUE.holds("few classes", WhiteSlope.class.getDeclaredClasses().length < 12);
    }

    /** LANGUAGE.md, rules 1 and 2. */
    private static void inside(Class<?> inside, Set<String> names) {
        for (Method m : inside.getDeclaredMethods()) {
            DUE.holds(m + " bears no public name", !names.contains(m.getName()));
        }
        DUE.is("classes inside " + inside, inside.getDeclaredClasses().length, 0);
        fields(inside);
    }

    /** LANGUAGE.md, rules 5 and 11. */
    private static void fields(Class<?> owner) {
        int many = 0;
        for (Field f : owner.getDeclaredFields()) {
            if (Modifier.isStatic(f.getModifiers())) {
                DUE.holds(f + " is final", Modifier.isFinal(f.getModifiers()));
            } else {
                many++;
            }
        }
        DUE.holds(owner + " has few fields, not " + many, many <= 20);
    }

    private static void constants() throws IllegalAccessException {
        String[] names = {"BAD", "NO", "FULL", "NONE", "NOTHING", "KIND", "INDEX", "SIZE"};
        int[] values = {Due.BAD, Due.NO, Due.FULL, Due.NONE, Due.NOTHING, Due.KIND, Due.INDEX, Due.SIZE};
        int found = 0;
        for (Field f : WhiteSlope.class.getDeclaredFields()) {
            if (Modifier.isPrivate(f.getModifiers())) {
                continue;
            }
            DUE.holds(f + " is a constant", f.getModifiers() == (Modifier.PUBLIC | Modifier.STATIC | Modifier.FINAL));
            for (int i = 0; i < names.length; i++) {
                if (names[i].equals(f.getName())) {
                    DUE.is(names[i], f.getInt(null), values[i]);
                    found++;
                }
            }
        }
        DUE.is("constants", found, names.length);
    }

    private static void words(String source) {
        DUE.holds("signs are ASCII", source.chars().allMatch(c -> c == '\n' || c >= 32 && c < 127));
        String bare = source.replaceAll("(?s)/\\*.*?\\*/", "").replaceAll("//[^\n]*", "")
            .replaceAll("'[^']'|\"[^\"]*\"", "0");
        String[] out = {"\\b(throw|throws|try|catch|synchronized|assert|package|protected|native|volatile|transient)\\b",
            "->", "::", "@", "\\b(hashCode|toString|equals)\\b", "\\b(NaN|Random|System\\.(?!arraycopy)\\w+)\\b",
            "\\bObject\\b", "Exact\\b", "\\bvar\\b", "static \\{", "\\bimport (?!java\\.util\\.(Arrays|ArrayList|List);)"};
        for (String pattern : out) {
            Matcher m = Pattern.compile(pattern).matcher(bare);
            DUE.holds("the source has no " + pattern, !m.find());
        }
        Matcher statics = Pattern.compile("static (?!final|boolean \\w+\\(|int \\w+\\(|void \\w+\\()\\S+").matcher(bare);
        DUE.holds("static fields are final", !statics.find());
        methods(source);
    }

    /** LANGUAGE.md, rules 11 and 12: all rows are made in constructors, so that calls fill no room. */
    private static void methods(String source) {
        Matcher m = Pattern.compile("\n( +)(?:public|private)[\\w\\[\\] ]* \\w+\\(([^)]*)\\) \\{\n(.*?)\n\\1\\}",
            Pattern.DOTALL).matcher(source);
        int many = 0;
        while (m.find()) {
            many++;
            DUE.holds("a short method: " + m.group().trim().split("\n")[0], m.group(3).split("\n").length <= 60);
            boolean constructor = m.group().matches("(?s)\\s+(public|private) \\w+\\(.*");
            DUE.holds("no object is made in: " + m.group().trim().split("\n")[0],
                constructor || !Pattern.compile("\\bnew\\b").matcher(m.group(3)).find());
            DUE.holds("few parameters: " + m.group(2), m.group(2).split(",").length <= 7);
        }
        DUE.holds("methods were found", many > 80);
    }
}
