import java.lang.reflect.Constructor;
import java.lang.reflect.Field;
import java.lang.reflect.Method;
import java.lang.reflect.Modifier;
import java.nio.file.Files;
import java.nio.file.Path;
import java.util.ArrayList;
import java.util.Arrays;
import java.util.List;
import java.util.Set;
import java.util.TreeSet;
import java.util.regex.Matcher;
import java.util.regex.Pattern;
import java.util.stream.Collectors;

/** The public face of the document, and the rules of LANGUAGE.md that can be seen in classes and source. */
public final class FaceTest {
    private static final String INDEX = " IndexOutOfBoundsException";
    private static final String ARGUMENT = " IllegalArgumentException";
    private static final String[] FACE = {
        "int feed(int,int,int,int,int)", "boolean end(int)", "int town()" + ARGUMENT + " UnsupportedOperationException",
        "int law()" + ARGUMENT, "int fault()", "int yard(int,int)" + INDEX + " NoSuchElementException",
        "int lane(int,int)" + INDEX + " NoSuchElementException", "int barrel(int,int)" + INDEX + " NoSuchElementException",
        "int step(int,int)" + INDEX, "int bearer(int,boolean)" + INDEX, "int seconds(int)" + ARGUMENT,
        "boolean put(int,boolean)" + INDEX, "int come(int,int)" + INDEX + ARGUMENT,
        "int delay(int,int)" + INDEX + ARGUMENT + " IllegalStateException", "int door(int,int)" + INDEX + ARGUMENT,
        "int trial(int)" + ARGUMENT, "int opens(int)" + INDEX, "int mends(int)" + ARGUMENT,
        "int meet(int,int)" + INDEX + ARGUMENT, "int starts(int,int)" + INDEX + ARGUMENT,
        "int changes(int,int)" + INDEX + ARGUMENT, "int last(int,int)" + INDEX + ARGUMENT,
        "int ambulance(int,int)" + INDEX, "int keep()", "int sparks(boolean)", "int let(int)",
        "int span(boolean)" + ARGUMENT, "boolean undo()", "void image()", "boolean back()", "int count(int)"};

    public static void main(String[] args) throws Exception {
        publicMembers();
        for (Class<?> one : allClasses()) {
            shape(one);
        }
        if (args.length > 0) {
            source(Files.readString(Path.of(args[0])));
        }
        Check.finish();
    }

    private static void publicMembers() {
        Set<String> found = new TreeSet<>();
        for (Method m : BarrelNight.class.getDeclaredMethods()) {
            if (!Modifier.isPrivate(m.getModifiers())) {
                found.add(signature(m));
                Check.due("public " + m.getName(), Modifier.isPublic(m.getModifiers()), true);
            }
        }
        Check.due("the face", found, new TreeSet<>(Arrays.asList(FACE)));
        Check.due("final", Modifier.isFinal(BarrelNight.class.getModifiers()), true);
        Constructor<?>[] constructors = BarrelNight.class.getDeclaredConstructors();
        Check.due("one constructor", constructors.length, 1);
        Check.due("a public one", Modifier.isPublic(constructors[0].getModifiers()), true);
        List<String> fields = new ArrayList<>();
        for (Field f : BarrelNight.class.getDeclaredFields()) {
            if (!Modifier.isPrivate(f.getModifiers())) {
                fields.add(Modifier.toString(f.getModifiers()) + " " + f.getType() + " " + f.getName());
            }
        }
        Check.due("constants", fields, List.of("public static final int NONE"));
    }

    private static String signature(Method m) {
        String types = Arrays.stream(m.getParameterTypes()).map(Class::getSimpleName).collect(Collectors.joining(","));
        String thrown = Arrays.stream(m.getExceptionTypes()).map(t -> " " + t.getSimpleName()).collect(Collectors.joining());
        return m.getReturnType().getSimpleName() + " " + m.getName() + "(" + types + ")" + thrown;
    }

    private static List<Class<?>> allClasses() {
        List<Class<?>> all = new ArrayList<>(List.of(BarrelNight.class));
        all.addAll(Arrays.asList(BarrelNight.class.getDeclaredClasses()));
        Check.due("at most some twelve classes", all.size() <= 12, true);
        return all;
    }

    private static void shape(Class<?> one) {
        if (one != BarrelNight.class) {
            int bits = one.getModifiers();
            Check.due(one + " is static", Modifier.isStatic(bits), true);
            Check.due(one + " is not open", Modifier.isPublic(bits) || Modifier.isProtected(bits), false);
        }
        Set<String> face = Arrays.stream(FACE).map(f -> f.replaceAll("^\\w+ |\\(.*", "")).collect(Collectors.toSet());
        for (Method m : one.getDeclaredMethods()) {
            Check.due(m + " has seven parameters at most", m.getParameterCount() <= 7, true);
            boolean isFace = one == BarrelNight.class && Modifier.isPublic(m.getModifiers());
            Check.due(m + " bears a name of the face", face.contains(m.getName()), isFace);
        }
        int own = 0;
        for (Field f : one.getDeclaredFields()) {
            if (Modifier.isStatic(f.getModifiers())) {
                Check.due(f + " is final", Modifier.isFinal(f.getModifiers()), true);
            } else {
                own++;
            }
        }
        Check.due(one + " has some twenty fields at most", own <= 20, true);
    }

    private static void source(String text) {
        String code = text.replaceAll("(?s)/\\*.*?\\*/", "").replaceAll("//[^\n]*", "").replaceAll("\"[^\"\n]*\"", "\"\"");
        for (String word : new String[] {"\\bcatch\\b", "\\btry\\b", "\\bfinally\\b", "->", "::", "\\bsynchronized\\b",
            "\\bassert\\b", "Exact\\(", "\\bdouble\\b", "\\bfloat\\b", "\"\"\\s*\\+|\\+\\s*\"\"", "while \\(true\\)",
            "\\bpackage\\b", "\\bSystem\\.(?!arraycopy)"}) {
            Check.due("the source has " + word, Pattern.compile(word).matcher(code).find(), false);
        }
        loops(code);
        methods(code);
        List<String> imports = code.lines().filter(l -> l.startsWith("import")).toList();
        Check.due("imports", imports, List.of("import java.util.NoSuchElementException;"));
    }

    /** Rule 9: the end of a loop is seen from its own lines, so a for counts, or takes one behind another. */
    private static void loops(String code) {
        Matcher m = Pattern.compile("\\bfor \\((.*)\\) \\{").matcher(code);
        while (m.find()) {
            String[] parts = m.group(1).split(";");
            String step = parts[parts.length - 1].strip();
            Check.due("for (" + m.group(1) + ") counts", step.matches("\\w+(\\+\\+|--| [+-]= [A-Z0-9_]+)"), true);
        }
        Check.due("do is used", Pattern.compile("\\bdo \\{").matcher(code).find(), false);
    }

    /** Rule 11: methods of some sixty lines at most. */
    private static void methods(String code) {
        List<String> lines = code.lines().toList();
        for (int i = 0; i < lines.size(); i++) {
            String line = lines.get(i);
            if (line.matches("( {4}| {8})\\w.*\\{") && !line.contains("class ")) {
                String indent = line.substring(0, line.indexOf(line.strip()));
                int last = i;
                while (last + 1 < lines.size() && !lines.get(last).equals(indent + "}")) {
                    last++;
                }
                Check.due("some sixty lines at most: " + line.strip(), last - i < 60, true);
            }
        }
    }
}
