import java.io.ByteArrayOutputStream;
import java.io.OutputStream;
import java.io.PrintStream;
import java.lang.reflect.Method;
import java.net.URI;
import java.nio.file.Files;
import java.nio.file.Path;
import java.util.ArrayList;
import java.util.HashMap;
import java.util.List;
import java.util.Map;
import java.util.concurrent.ExecutorService;
import java.util.concurrent.Executors;
import java.util.concurrent.Future;
import java.util.regex.Matcher;
import java.util.regex.Pattern;
import javax.tools.FileObject;
import javax.tools.ForwardingJavaFileManager;
import javax.tools.JavaCompiler;
import javax.tools.JavaFileManager;
import javax.tools.JavaFileObject;
import javax.tools.SimpleJavaFileObject;
import javax.tools.ToolProvider;

/**
 * Run by hand, not by .ci/run: whether the tests of the edges would fail if the class were wrong. It spoils one place of
 * the source at a time, runs the Edges tests on it, and tells the places at which none of them failed.
 * Arguments: the source, the directory of the compiled tests.
 */
public final class Mutants {
    private static final int SECONDS_A_MUTANT = 20;
    // Each a pattern and what its first group may be instead.
    private static final String[][] SPOILS = {
        {"(?<![\\w.])(\\d+)(?!\\w)", "+1", "-1"}, {" (<) ", "<="}, {" (<=) ", "<"}, {" (>) ", ">="}, {" (>=) ", ">"},
        {" (==) ", "!="}, {" (!=) ", "=="}, {" (&&) ", "||"}, {" (\\|\\|) ", "&&"}, {" (\\+) ", "-"}, {" (-) ", "+"},
        {" (\\+=) ", "-="}, {" (-=) ", "+="}, {"(\\+\\+)", "--"}, {" (&) ", "|"}, {" (\\|) ", "&"}, {" (\\|=) ", "="},
        {"(!)[a-z(]", ""}, {"(~)", ""}, {"\\b(true)\\b", "false"}, {"\\b(false)\\b", "true"}, {"Math\\.(min)", "max"},
        {"Math\\.(max)", "min"}, {" (<<) ", ">>"}, {" (>>>?) ", "<<"}, {" (\\*) ", "+"}, {" (/) ", "*"}, {" (%) ", "*"},
        {"\\n {8,}((?!return|throw|break|int |boolean |case |private |final |static |Law |Yards |Lanes |Barrels )[^\\n{}]*;)\\n", ""}};

    private final String source;
    private final Path tests;

    private Mutants(String source, Path tests) {
        this.source = source;
        this.tests = tests;
    }

    private record Mutant(int from, int to, String instead) {
    }

    public static void main(String[] args) throws Exception {
        Mutants all = new Mutants(Files.readString(Path.of(args[0])), Path.of(args[1]));
        PrintStream out = System.out;
        System.setOut(new PrintStream(OutputStream.nullOutputStream()));
        ExecutorService pool = Executors.newFixedThreadPool(Runtime.getRuntime().availableProcessors());
        List<Mutant> mutants = all.mutants();
        List<Future<String>> ends = new ArrayList<>();
        for (Mutant one : mutants) {
            ends.add(pool.submit(() -> all.endOf(one)));
        }
        Map<String, Integer> counts = new HashMap<>();
        for (int i = 0; i < ends.size(); i++) {
            String end = ends.get(i).get();
            counts.merge(end, 1, Integer::sum);
            if (end.equals("seen by none")) {
                out.println(all.told(mutants.get(i)));
            }
        }
        out.println(counts);
        System.exit(0);
    }

    private List<Mutant> mutants() {
        // Comments and texts are blanked out, so that nothing is spoilt in them.
        String code = blank(source, "(?s)/\\*.*?\\*/|//[^\n]*|\"[^\"\n]*\"|'[^'\n]*'");
        List<Mutant> all = new ArrayList<>();
        for (String[] spoil : SPOILS) {
            Matcher m = Pattern.compile(spoil[0]).matcher(code);
            for (int at = 0; at < code.length() && m.find(at); at = Math.max(m.start() + 1, m.start(1) + 1)) {
                for (int i = 1; i < spoil.length; i++) {
                    String instead = spoil[i].matches("[+-]1") ? "(" + m.group(1) + spoil[i] + ")" : spoil[i];
                    all.add(new Mutant(m.start(1), m.end(1), instead));
                }
            }
        }
        return all;
    }

    private static String blank(String text, String pattern) {
        Matcher m = Pattern.compile(pattern).matcher(text);
        StringBuilder all = new StringBuilder(text);
        while (m.find()) {
            for (int i = m.start(); i < m.end(); i++) {
                if (all.charAt(i) != '\n') {
                    all.setCharAt(i, '_');
                }
            }
        }
        return all.toString();
    }

    private String told(Mutant one) {
        int line = (int) source.substring(0, one.from).chars().filter(c -> c == '\n').count() + 1;
        String text = source.lines().toList().get(line - 1).strip();
        return line + ": " + text + "   [" + source.substring(one.from, one.to) + " -> " + one.instead + "]";
    }

    private String endOf(Mutant one) throws Exception {
        Map<String, byte[]> classes = compile(source.substring(0, one.from) + one.instead + source.substring(one.to));
        if (classes == null) {
            return "does not compile";
        }
        String[] end = {"does not end"};
        Thread run = new Thread(() -> end[0] = isSeen(classes) ? "seen" : "seen by none");
        run.setDaemon(true);
        run.start();
        run.join(SECONDS_A_MUTANT * 1000L);
        if (run.isAlive()) {
            stop(run);
        }
        return end[0];
    }

    @SuppressWarnings({"deprecation", "removal"})
    private static void stop(Thread run) {
        run.stop();
    }

    private boolean isSeen(Map<String, byte[]> classes) {
        try {
            ClassLoader loader = new Loader(classes, tests);
            Method countWrong = loader.loadClass("Check").getDeclaredMethod("countWrong", Class.class);
            countWrong.setAccessible(true);
            for (Class<?> tests : EdgesCoverTest.ALL) {
                if ((int) countWrong.invoke(null, loader.loadClass(tests.getName())) > 0) {
                    return true;
                }
            }
            return false;
        } catch (ReflectiveOperationException | LinkageError e) {
            return true;
        }
    }

    /** Null if it does not compile. */
    private static Map<String, byte[]> compile(String text) throws Exception {
        JavaCompiler javac = ToolProvider.getSystemJavaCompiler();
        Map<String, ByteArrayOutputStream> made = new HashMap<>();
        JavaFileManager files = new ForwardingJavaFileManager<JavaFileManager>(javac.getStandardFileManager(null, null, null)) {
            @Override
            public JavaFileObject getJavaFileForOutput(Location where, String name, JavaFileObject.Kind kind, FileObject near) {
                return new SimpleJavaFileObject(URI.create("mem:///" + name), kind) {
                    @Override
                    public OutputStream openOutputStream() {
                        made.put(name, new ByteArrayOutputStream());
                        return made.get(name);
                    }
                };
            }
        };
        JavaFileObject file = new SimpleJavaFileObject(URI.create("mem:///BarrelNight.java"), JavaFileObject.Kind.SOURCE) {
            @Override
            public CharSequence getCharContent(boolean ignore) {
                return text;
            }
        };
        boolean isDone = javac.getTask(new java.io.PrintWriter(OutputStream.nullOutputStream()),
                files, d -> { }, List.of("-proc:none"), null, List.of(file)).call();
        Map<String, byte[]> all = new HashMap<>();
        made.forEach((name, bytes) -> all.put(name, bytes.toByteArray()));
        return isDone ? all : null;
    }

    /** Loads the spoilt class, and the tests anew for it. */
    private static final class Loader extends ClassLoader {
        private final Map<String, byte[]> classes;
        private final Path tests;

        Loader(Map<String, byte[]> classes, Path tests) {
            super(ClassLoader.getPlatformClassLoader());
            this.classes = classes;
            this.tests = tests;
        }

        @Override
        protected Class<?> findClass(String name) throws ClassNotFoundException {
            try {
                byte[] bytes = classes.containsKey(name) ? classes.get(name) : Files.readAllBytes(tests.resolve(name + ".class"));
                return defineClass(name, bytes, 0, bytes.length);
            } catch (java.io.IOException e) {
                throw new ClassNotFoundException(name);
            }
        }
    }
}
