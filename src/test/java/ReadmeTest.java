import java.io.File;
import java.io.IOException;
import java.lang.reflect.Field;
import java.lang.reflect.Method;
import java.lang.reflect.Modifier;
import java.net.URL;
import java.net.URLClassLoader;
import java.nio.charset.StandardCharsets;
import java.nio.file.Files;
import java.nio.file.Path;
import java.util.ArrayList;
import java.util.Comparator;
import java.util.List;
import java.util.Set;
import java.util.TreeSet;
import java.util.regex.Matcher;
import java.util.regex.Pattern;
import java.util.stream.Stream;
import javax.tools.ToolProvider;

/** README.md says how to use the class and how to run its tests, and what it says is so: its code blocks are run here. */
public final class ReadmeTest {
    private static final Due DUE = new Due("ReadmeTest");
    private static final Path TESTS = Path.of("src/test/java");

    public static void main(String[] args) throws IOException, InterruptedException, ReflectiveOperationException {
        Path file = Path.of("README.md");
        DUE.holds("README.md is there", Files.isRegularFile(file));
        String readme = Files.isRegularFile(file) ? Files.readString(file, StandardCharsets.UTF_8) : "";
        Path room = Files.createTempDirectory("readme");
        try {
            face(readme);
            example(blocks(readme, "java"), room);
            tests(readme);
            commands(blocks(readme, "sh"), room);
        } finally {
            remove(room);
        }
        DUE.end();
    }

    private static void face(String readme) {
        for (Method m : WhiteSlope.class.getDeclaredMethods()) {
            if (Modifier.isPublic(m.getModifiers())) {
                DUE.holds("README.md names the call " + m.getName(), readme.contains("`" + m.getName() + "`"));
            }
        }
        for (Field f : WhiteSlope.class.getDeclaredFields()) {
            if (Modifier.isPublic(f.getModifiers())) {
                DUE.holds("README.md names the constant " + f.getName(), readme.contains("`" + f.getName() + "`"));
            }
        }
    }

    /** Each call of the example has its answer as a remark: x.track(1);  // 1: .. */
    private static void example(String block, Path room) throws IOException, ReflectiveOperationException {
        DUE.holds("README.md has an example of use", block.contains("new WhiteSlope()"));
        List<String> calls = new ArrayList<>();
        List<Long> answers = new ArrayList<>();
        StringBuilder source = new StringBuilder("public final class Example { public static long[] answers() {\n");
        StringBuilder row = new StringBuilder();
        for (String line : block.split("\n")) {
            Matcher call = Pattern.compile("(x\\.\\w+\\(.*?\\)); *// (-?\\d+|[A-Z]+)\\b.*").matcher(line.trim());
            if (call.matches()) {
                source.append("long a").append(calls.size()).append(" = ").append(call.group(1)).append(";\n");
                row.append("a").append(calls.size()).append(", ");
                calls.add(call.group(1));
                answers.add(number(call.group(2)));
            } else {
                DUE.holds("a line of the example has its answer: " + line, line.isBlank() || line.contains("new WhiteSlope()"));
                source.append(line).append('\n');
            }
        }
        source.append("return new long[] {").append(row).append("}; } }\n");
        long[] got = run(source.toString(), room);
        DUE.is("answers of the example", got.length, calls.size());
        for (int i = 0; i < got.length && i < calls.size(); i++) {
            DUE.is("README.md: " + calls.get(i), got[i], answers.get(i));
        }
    }

    private static long number(String answer) throws ReflectiveOperationException {
        boolean digits = answer.matches("-?\\d+");
        return digits ? Long.parseLong(answer) : WhiteSlope.class.getField(answer).getInt(null);
    }

    private static long[] run(String source, Path room) throws IOException, ReflectiveOperationException {
        Path file = Files.writeString(room.resolve("Example.java"), source);
        int wrong = ToolProvider.getSystemJavaCompiler().run(null, null, null, "-cp", System.getProperty("java.class.path"),
            "-d", room.toString(), file.toString());
        DUE.is("the example does not compile", wrong, 0);
        if (wrong != 0) {
            return new long[0];
        }
        try (URLClassLoader loader = new URLClassLoader(new URL[] {room.toUri().toURL()})) {
            return (long[]) loader.loadClass("Example").getMethod("answers").invoke(null);
        }
    }

    private static void tests(String readme) throws IOException {
        DUE.holds("README.md says that .ci/run runs all tests", readme.contains("`.ci/run`"));
        DUE.holds(".ci/run can be run", Files.isExecutable(Path.of(".ci/run")));
        Set<String> there = new TreeSet<>();
        try (Stream<Path> files = Files.list(TESTS)) {
            files.map(f -> f.getFileName().toString()).filter(n -> n.endsWith("Test.java"))
                .forEach(n -> there.add(n.substring(0, n.length() - ".java".length())));
        }
        Set<String> named = new TreeSet<>();
        Matcher names = Pattern.compile("\\b\\w+Test\\b").matcher(readme);
        while (names.find()) {
            named.add(names.group());
        }
        DUE.holds("README.md names the tests " + there + ", not " + named, named.equals(there));
    }

    /** The whole run is what runs this test, so a block with it would never end. */
    private static void commands(String block, Path room) throws IOException, InterruptedException {
        DUE.holds("README.md says how to run a single test", block.contains("javac") && block.contains("java -cp"));
        DUE.holds("the block is for a single test", !block.contains(".ci/run") && !block.contains("ReadmeTest"));
        if (block.contains(".ci/run") || block.contains("ReadmeTest")) {
            return;
        }
        File told = room.resolve("told").toFile();
        ProcessBuilder shell = new ProcessBuilder("sh", "-e", "-c", block).redirectErrorStream(true).redirectOutput(told);
        shell.environment().put("TMPDIR", room.toString());
        int exit = shell.start().waitFor();
        String output = Files.readString(told.toPath());
        DUE.is("README.md's commands for a single test: " + output, exit, 0);
        DUE.holds("a single test tells what it asked: " + output, output.contains(" asked, 0 wrong"));
    }

    private static String blocks(String readme, String language) {
        Matcher m = Pattern.compile("```" + language + "\n(.*?)```", Pattern.DOTALL).matcher(readme);
        StringBuilder all = new StringBuilder();
        while (m.find()) {
            all.append(m.group(1));
        }
        return all.toString();
    }

    private static void remove(Path room) throws IOException {
        try (Stream<Path> files = Files.walk(room)) {
            for (Path file : files.sorted(Comparator.reverseOrder()).toList()) {
                Files.delete(file);
            }
        }
    }
}
