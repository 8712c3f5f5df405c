import java.lang.reflect.InvocationTargetException;
import java.lang.reflect.Method;
import java.util.ArrayList;
import java.util.Arrays;
import java.util.Comparator;
import java.util.List;

/** What the tests share: feeding a text, and telling an answer that is not the one that is due. */
final class Check {
    private static int wrong = 0;
    private static String test = "";

    private Check() {
    }

    interface Call {
        Object answer();
    }

    interface CallOf {
        Object answer(BarrelNight x);
    }

    static void runAll(Class<?> tests) throws IllegalAccessException {
        countWrong(tests);
        finish();
    }

    /** Runs each test of a class: a static method whose name begins with the promise that it is of. */
    static int countWrong(Class<?> tests) throws IllegalAccessException {
        for (Method m : testsOf(tests)) {
            test = m.getName() + ": ";
            m.setAccessible(true);
            try {
                m.invoke(null);
            } catch (InvocationTargetException e) {
                due("what it throws", e.getCause(), "nothing");
            }
        }
        test = "";
        return wrong;
    }

    static List<Method> testsOf(Class<?> tests) {
        List<Method> all = new ArrayList<>(Arrays.asList(tests.getDeclaredMethods()));
        all.removeIf(m -> !m.getName().startsWith("promise"));
        all.sort(Comparator.comparing(Method::getName));
        return all;
    }

    static void due(String what, Object got, Object want) {
        if (!want.equals(got)) {
            wrong++;
            System.out.println(test + what + ": answered " + got + ", due is " + want);
        }
    }

    /** The answer of a call, or the exact class that it threw. */
    static Object of(Call call) {
        try {
            return call.answer();
        } catch (RuntimeException e) {
            return e.getClass().getSimpleName();
        }
    }

    static void dueThrow(String what, Call call, Class<? extends RuntimeException> want) {
        due(what, of(call), want.getSimpleName());
    }

    /** A refused call changes nothing: each is made on a new object, so that none has more than 512 calls. */
    static void dueRefused(Class<? extends RuntimeException> want, String what, CallOf call) {
        BarrelNight x = everything();
        feed(x, "wind 3");
        List<Integer> before = seen(x);
        due(what, of(() -> call.answer(x)), want.getSimpleName());
        due(what + ": all that is seen behind it", seen(x), before);
        due(what + ": the tape has no more", x.end(7), false);
        due(what + ": the tape has no fewer", x.end(6), true);
    }

    /** A town with some of everything, in which something has happened. */
    static BarrelNight everything() {
        BarrelNight x = told("yard 50 20 wall 2 door 3;yard 50 30 wall 5 door 0 thatch;yard 20 5 wall 0 door 0;"
                + "lane 0 1;lane 1 2;push 2;wind 4",
                "barrel at 2 pace 2 tar 3 weight 4 way 0 1 2;barrel at 40 pace 3 tar 9 weight 6 way 2 1;"
                + "bearer 9 1;bearer 4 2");
        due("law", law(x, "back 3 if people > 4;back 1"), 2);
        x.come(0, 3);
        x.seconds(3);
        return x;
    }

    /** All that can be seen of an object but for the TAPE, and the first answers that hang on it. */
    static List<Integer> seen(BarrelNight x) {
        List<Integer> all = new ArrayList<>(List.of(x.fault(), x.trial(30), x.keep(), x.let(-1), x.sparks(true)));
        for (int what = 0; what < 14; what++) {
            all.add(x.count(what));
        }
        for (int yard = 0; yard < x.count(0); yard++) {
            for (int what = 0; what < 9; what++) {
                all.add(x.yard(yard, what));
            }
        }
        for (int lane = 0; lane < x.count(1); lane++) {
            for (int what = 0; what < 3; what++) {
                all.add(x.lane(lane, what));
            }
        }
        for (int barrel = 0; barrel < x.count(2); barrel++) {
            for (int what = 0; what < 8; what++) {
                all.add(x.barrel(barrel, what));
            }
            for (int k = 0; k <= x.barrel(barrel, 4); k++) {
                all.add(x.step(barrel, k));
            }
        }
        for (int bearer = 0; bearer < x.count(3); bearer++) {
            all.add(x.bearer(bearer, false));
            all.add(x.bearer(bearer, true));
        }
        return all;
    }

    static void feed(BarrelNight x, String text) {
        int[] bytes = new int[text.length()];
        for (int i = 0; i < bytes.length; i++) {
            bytes[i] = text.charAt(i);
        }
        feed(x, bytes);
    }

    static void feed(BarrelNight x, int... bytes) {
        for (int from = 0; from < bytes.length; from += 20) {
            int[] n = new int[5];
            for (int i = 0; i < 20; i++) {
                n[i / 4] = n[i / 4] << 8 | (from + i < bytes.length ? bytes[from + i] : 0);
            }
            x.feed(n[0], n[1], n[2], n[3], n[4]);
        }
        x.end(bytes.length);
    }

    static Object town(BarrelNight x, String text) {
        feed(x, text);
        return of(x::town);
    }

    static Object law(BarrelNight x, String text) {
        feed(x, text);
        return of(x::law);
    }

    static Object span(BarrelNight x, boolean most, int... bytes) {
        feed(x, bytes);
        return of(() -> x.span(most));
    }

    static BarrelNight told(String... texts) {
        BarrelNight x = new BarrelNight();
        for (int i = 0; i < texts.length; i++) {
            due("town " + texts[i], town(x, texts[i]), i + 1);
        }
        return x;
    }

    /** The same line so many times. */
    static String times(int n, String line) {
        return (line + ";").repeat(n).replaceAll(";$", "");
    }

    /** The fault of a text of the town behind others, or -1. */
    static void dueFault(String text, int want, String... before) {
        BarrelNight x = told(before);
        Object answer = town(x, text);
        due("town " + text, answer, want < 0 ? before.length + 1 : "IllegalArgumentException");
        due("fault of " + text, x.fault(), want);
        due("texts behind " + text, x.count(4), before.length + (want < 0 ? 1 : 0));
    }

    static void dueLawFault(String text, int want) {
        BarrelNight x = new BarrelNight();
        Object answer = law(x, text);
        due("law " + text + " is wrong", "IllegalArgumentException".equals(answer), want >= 0);
        due("fault of " + text, x.fault(), want);
        due("has a law behind " + text, x.count(5) >= 0, want < 0);
    }

    static void finish() {
        System.out.println(wrong == 0 ? "all answers are as due" : wrong + " answers are not as due");
        if (wrong != 0) {
            System.exit(1);
        }
    }
}
