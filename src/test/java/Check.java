/** What the tests share: feeding a text, and telling an answer that is not the one that is due. */
final class Check {
    private static int wrong = 0;

    private Check() {
    }

    interface Call {
        Object answer();
    }

    static void due(String what, Object got, Object want) {
        if (!want.equals(got)) {
            wrong++;
            System.out.println(what + ": answered " + got + ", due is " + want);
        }
    }

    /** The answer of a call, or the exact class that it threw. */
    static Object of(Call call) {
        try {
            return call.answer();
        } catch (RuntimeException e) {
            return e.getClass().getSimpleName();
        }
    }

    static void dueThrow(String what, Call call, Class<? extends RuntimeException> want) {
        due(what, of(call), want.getSimpleName());
    }

    static void feed(BarrelNight x, String text) {
        int[] bytes = new int[text.length()];
        for (int i = 0; i < bytes.length; i++) {
            bytes[i] = text.charAt(i);
        }
        feed(x, bytes);
    }

    static void feed(BarrelNight x, int... bytes) {
        for (int from = 0; from < bytes.length; from += 20) {
            int[] n = new int[5];
            for (int i = 0; i < 20; i++) {
                n[i / 4] = n[i / 4] << 8 | (from + i < bytes.length ? bytes[from + i] : 0);
            }
            x.feed(n[0], n[1], n[2], n[3], n[4]);
        }
        x.end(bytes.length);
    }

    static Object town(BarrelNight x, String text) {
        feed(x, text);
        return of(x::town);
    }

    static Object law(BarrelNight x, String text) {
        feed(x, text);
        return of(x::law);
    }

    static BarrelNight told(String... texts) {
        BarrelNight x = new BarrelNight();
        for (int i = 0; i < texts.length; i++) {
            due("town " + texts[i], town(x, texts[i]), i + 1);
        }
        return x;
    }

    /** The fault of a text of the town behind others, or -1. */
    static void dueFault(String text, int want, String... before) {
        BarrelNight x = told(before);
        Object answer = town(x, text);
        due("town " + text, answer, want < 0 ? before.length + 1 : "IllegalArgumentException");
        due("fault of " + text, x.fault(), want);
        due("texts behind " + text, x.count(4), before.length + (want < 0 ? 1 : 0));
    }

    static void dueLawFault(String text, int want) {
        BarrelNight x = new BarrelNight();
        Object answer = law(x, text);
        due("law " + text + " is wrong", "IllegalArgumentException".equals(answer), want >= 0);
        due("fault of " + text, x.fault(), want);
        due("has a law behind " + text, x.count(5) >= 0, want < 0);
    }

    static void finish() {
        System.out.println(wrong == 0 ? "all answers are as due" : wrong + " answers are not as due");
        if (wrong != 0) {
            System.exit(1);
        }
    }
}
