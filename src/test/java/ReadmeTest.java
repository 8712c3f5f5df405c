import java.io.IOException;
import java.lang.reflect.Constructor;
import java.lang.reflect.Method;
import java.net.URL;
import java.net.URLClassLoader;
import java.nio.file.Files;
import java.nio.file.Path;
import java.util.ArrayList;
import java.util.Arrays;
import java.util.List;
import java.util.Set;
import java.util.TreeSet;
import java.util.regex.Matcher;
import java.util.regex.Pattern;
import java.util.stream.Stream;
import javax.tools.ToolProvider;

/** README.md, in the directory in which the tests are run: what it says is so. */
public final class ReadmeTest {
    private static final Path README = Path.of("README.md");
    private static final Path DOC = Path.of("..", "shared", "DOC.md");
    private static final Path TESTS = Path.of("src", "test", "java");
    private static final Pattern BLOCK = Pattern.compile("(?s)```java\n(.*?)```");
    private static final Pattern ANSWERED = Pattern.compile("(?m)^(night\\.\\w+\\(.*?\\)); +// (-?\\d+|true|false|\\w+Exception): .*$");
    private static final Pattern CALL_ROW = Pattern.compile("(?m)^\\| (\\d+) \\| `(\\w+)\\(([^)]*)\\)` \\| \\S.*\\|$");
    private static final Pattern PROMISE = Pattern.compile("(?m)^## Promise (\\d+): .*\n\n`([^`]*)`");

    public static void main(String[] args) throws Exception {
        String readme = Files.readString(README);
        example(readme);
        calls(readme);
        if (Files.exists(DOC)) {
            promises(readme, Files.readString(DOC));
        }
        tests(readme);
        Check.finish();
    }

    /** The example is compiled as it stands, and each answer in it held against the one behind its call. */
    private static void example(String readme) throws Exception {
        Matcher m = BLOCK.matcher(readme);
        Check.due("the block of feed", m.find(), true);
        String feed = m.group(1);
        Check.due("the block of calls", m.find(), true);
        String night = m.group(1);
        Check.due("no other block", m.find(), false);
        long comments = night.lines().filter(l -> l.contains("//") && !l.startsWith("night.image()")).count();
        Check.due("calls with an answer", ANSWERED.matcher(night).results().count(), comments);
        for (Object[] one : answers(sourceOf(feed, night))) {
            Check.due("README: " + one[0], String.valueOf(one[2]), one[1]);
        }
    }

    private static String sourceOf(String feed, String night) {
        String told = ANSWERED.matcher(night).replaceAll("all.add(new Object[] {\"$1\", \"$2\", of(() -> $1)});");
        return "public final class ReadmeExample {\n"
                + "public static java.util.List<Object[]> answers() {\n"
                + "java.util.List<Object[]> all = new java.util.ArrayList<>();\n" + told + "return all;\n}\n"
                + "private static Object of(java.util.function.Supplier<Object> call) {\n"
                + "try { return call.get(); } catch (RuntimeException e) { return e.getClass().getSimpleName(); }\n}\n"
                + "private " + feed + "}\n";
    }

    @SuppressWarnings("unchecked")
    private static List<Object[]> answers(String source) throws Exception {
        Path dir = Files.createTempDirectory("readme");
        try {
            Path file = dir.resolve("ReadmeExample.java");
            Files.writeString(file, source);
            int end = ToolProvider.getSystemJavaCompiler().run(null, null, null, "-cp",
                    System.getProperty("java.class.path"), "-d", dir.toString(), file.toString());
            Check.due("the example compiles", end, 0);
            if (end != 0) {
                return List.of();
            }
            try (URLClassLoader loader = new URLClassLoader(new URL[] {dir.toUri().toURL()}, ReadmeTest.class.getClassLoader())) {
                return (List<Object[]>) loader.loadClass("ReadmeExample").getMethod("answers").invoke(null);
            }
        } finally {
            remove(dir);
        }
    }

    private static void remove(Path dir) throws IOException {
        try (Stream<Path> all = Files.list(dir)) {
            for (Path one : all.toList()) {
                Files.delete(one);
            }
        }
        Files.delete(dir);
    }

    /** Every member of the face has one row, with as many arguments. */
    private static void calls(String readme) {
        List<String> told = new ArrayList<>();
        CALL_ROW.matcher(readme).results().forEach(r -> told.add(r.group(2) + " " + argumentsOf(r.group(3))));
        List<String> face = new ArrayList<>();
        for (Constructor<?> one : BarrelNight.class.getConstructors()) {
            face.add("BarrelNight " + one.getParameterCount());
        }
        for (Method one : BarrelNight.class.getDeclaredMethods()) {
            if (java.lang.reflect.Modifier.isPublic(one.getModifiers())) {
                face.add(one.getName() + " " + one.getParameterCount());
            }
        }
        told.sort(null);
        face.sort(null);
        Check.due("the calls", told, face);
    }

    private static int argumentsOf(String list) {
        return list.isEmpty() ? 0 : list.split(",").length;
    }

    /** The rows bear the numbers and the arguments' names of the document. */
    private static void promises(String readme, String doc) {
        List<String> told = new ArrayList<>();
        CALL_ROW.matcher(readme).results().forEach(r -> told.add(r.group(1) + " " + r.group(2) + "(" + r.group(3) + ")"));
        List<String> want = new ArrayList<>();
        PROMISE.matcher(doc).results().forEach(r -> want.add(r.group(1) + " "
                + r.group(2).replaceAll(" throws .*", "").replaceAll("\\b(int|boolean|void) ", "")));
        Check.due("promises", want.size(), 32);
        Check.due("the rows of the calls", told, want);
    }

    private static void tests(String readme) throws IOException {
        Set<String> told = new TreeSet<>();
        Pattern.compile("(?m)^\\| `(\\w+Test)` \\|").matcher(readme).results().forEach(r -> told.add(r.group(1)));
        Set<String> there = new TreeSet<>();
        try (Stream<Path> all = Files.list(TESTS)) {
            all.map(p -> p.getFileName().toString()).filter(n -> n.endsWith("Test.java"))
                    .forEach(n -> there.add(n.replace(".java", "")));
        }
        Check.due("the tests", told, there);
        for (String path : Arrays.asList(".ci/run", "src/main/java/BarrelNight.java", "src/test/java/Mutants.java")) {
            Check.due(path + " is there", Files.exists(Path.of(path)), true);
        }
    }
}
