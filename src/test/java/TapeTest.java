/** Promises 1 to 3: a new object, feed, end. */
public final class TapeTest {
    public static void main(String[] args) {
        newObject();
        feeding();
        ending();
        bytesHighestFirst();
        usedUp();
        Check.finish();
    }

    private static void newObject() {
        BarrelNight x = new BarrelNight();
        Check.due("NONE", BarrelNight.NONE, -1);
        int[] want = {0, 0, 0, 0, 0, -1, 0, 0, 0, 0, 0, 1, 0, 0};
        for (int what = 0; what < want.length; what++) {
            Check.due("count " + what, x.count(what), want[what]);
        }
        Check.due("count 14", x.count(14), -1);
        Check.due("count -1", x.count(-1), -1);
        Check.due("fault", x.fault(), -1);
        Check.due("undo", x.undo(), false);
        Check.due("back", x.back(), false);
        Check.due("keep", x.keep(), -1);
        Check.due("let", x.let(-1), 0);
        Check.due("sparks", x.sparks(false), 0);
        Check.due("buckets", x.sparks(true), 0);
        Check.due("span", x.span(true), 0);
        Check.due("trial", x.trial(600), 0);
        Check.due("mends", x.mends(1), 0);
    }

    private static void feeding() {
        BarrelNight x = new BarrelNight();
        for (int i = 1; i <= 20; i++) {
            Check.due("feed " + i, x.feed(0x20202020, 0x20202020, 0x20202020, 0x20202020, 0x20202020), 20 * i);
        }
        Check.due("feed above 400", x.feed(0, 0, 0, 0, 0), -1);
        Check.due("none came", x.end(401), false);
        Check.due("400 are there", x.end(400), true);
        Check.due("cut", x.end(381), true);
        Check.due("feed above 400 from 381", x.feed(0, 0, 0, 0, 0), -1);
        Check.due("cut", x.end(380), true);
        Check.due("feed up to 400", x.feed(0x20202020, 0x20202020, 0x20202020, 0x20202020, 0x20202020), 400);
        Check.due("blanks alone", Check.of(x::town), 1);
    }

    private static void ending() {
        BarrelNight x = new BarrelNight();
        Check.due("end -1", x.end(-1), false);
        Check.due("end least", x.end(Integer.MIN_VALUE), false);
        Check.due("end 0", x.end(0), true);
        Check.due("end 1", x.end(1), false);
        x.feed(0, 0, 0, 0, 0);
        Check.due("end 21", x.end(21), false);
        Check.due("end 20", x.end(20), true);
        Check.due("end 7", x.end(7), true);
        Check.due("end 8", x.end(8), false);
        Check.due("feed behind 7", x.feed(0, 0, 0, 0, 0), 27);
    }

    private static void bytesHighestFirst() {
        BarrelNight x = new BarrelNight();
        x.feed(0x77696e64, 0x20370000, 0, 0, 0);
        x.end(6);
        Check.due("wind 7", Check.of(x::town), 1);
        Check.due("wind", x.count(10), 7);
        x.feed(0x77696e64, 0x20ff0000, 0, 0, 0);
        Check.dueThrow("a byte above 127", x::town, IllegalArgumentException.class);
        Check.due("fault", x.fault(), 5);
    }

    private static void usedUp() {
        BarrelNight x = new BarrelNight();
        Check.due("wrong text", Check.town(x, "wrong"), "IllegalArgumentException");
        Check.due("used up by a wrong town", x.end(1), false);
        Check.due("wrong law", Check.law(x, "wrong"), "IllegalArgumentException");
        Check.due("used up by a wrong law", x.end(1), false);
        Check.due("law", Check.law(x, "back 1"), 1);
        Check.due("used up by a law", x.end(1), false);
        Check.due("town", Check.town(x, "wind 1"), 1);
        Check.due("used up by a town", x.end(1), false);
        Check.feed(x, 1, 2, 3);
        Check.dueThrow("wrong span", () -> x.span(true), IllegalArgumentException.class);
        Check.due("used up by a wrong span", x.end(1), false);
    }
}
