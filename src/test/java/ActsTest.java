/** Promises 13 to 16 and 29 to 31: acts, their undoing, the image. */
public final class ActsTest {
    public static void main(String[] args) {
        wrongNumbers();
        put();
        come();
        delay();
        door();
        undo();
        twelve();
        image();
        Check.finish();
    }

    private static BarrelNight town() {
        return Check.told("yard 50 20 wall 2 door 3;yard 50 30 wall 5 door 0;lane 0 1;lane 0 1;push 2;"
                + "barrel at 5 pace 2 tar 3 weight 4 way 0 1;bearer 9 1");
    }

    private static void wrongNumbers() {
        BarrelNight x = town();
        Class<IndexOutOfBoundsException> none = IndexOutOfBoundsException.class;
        Class<IllegalArgumentException> wrong = IllegalArgumentException.class;
        Check.dueThrow("put 2", () -> x.put(2, true), none);
        Check.dueThrow("put -1", () -> x.put(-1, true), none);
        Check.dueThrow("come 2", () -> x.come(2, 0), none);
        Check.dueThrow("come -1", () -> x.come(-1, 1), none);
        Check.dueThrow("come 0 people", () -> x.come(0, 0), wrong);
        Check.dueThrow("come 1000 people", () -> x.come(0, 1000), wrong);
        Check.dueThrow("delay 1", () -> x.delay(1, 0), none);
        Check.dueThrow("delay -1", () -> x.delay(-1, 1), none);
        Check.dueThrow("delay by 0", () -> x.delay(0, 0), wrong);
        Check.dueThrow("delay by 100", () -> x.delay(0, 100), wrong);
        Check.dueThrow("door 2", () -> x.door(2, 0), none);
        Check.dueThrow("door -1", () -> x.door(-1, 1), none);
        Check.dueThrow("door by 0", () -> x.door(0, 0), wrong);
        Check.dueThrow("door by 100", () -> x.door(0, 100), wrong);
        Check.due("none remembered", x.count(13), 0);
        x.seconds(5);
        Check.dueThrow("delay by 100 is told first", () -> x.delay(0, 100), wrong);
        Check.dueThrow("delay of one that is on", () -> x.delay(0, 1), IllegalStateException.class);
        Check.due("seconds alone remembered", x.count(13), 1);
    }

    private static void put() {
        BarrelNight x = town();
        Check.due("open it is", x.put(0, true), false);
        Check.due("shut", x.put(0, false), true);
        Check.due("still beside by the other", x.yard(0, 8), 2);
        Check.due("shut the other", x.put(1, false), true);
        Check.due("not beside", x.yard(0, 8), 0);
        Check.due("shut it is", x.put(1, false), false);
        Check.due("lane", x.lane(1, 2), 0);
        Check.due("opened", x.put(1, true), true);
        Check.due("lane", x.lane(1, 2), 1);
        Check.due("all remembered", x.count(13), 5);
    }

    private static void come() {
        BarrelNight x = town();
        Check.due("some", x.come(0, 10), 10);
        Check.due("as many as it holds", x.come(0, 999), 20);
        Check.due("none", x.come(0, 1), 0);
        Check.due("people", x.yard(0, 1), 50);
        Check.due("all", x.count(7), 80);
        Check.due("remembered", x.count(13), 3);
    }

    private static void delay() {
        BarrelNight x = town();
        Check.due("delay", x.delay(0, 1), 6);
        for (int i = 1; i <= 10; i++) {
            Check.due("delay " + i, x.delay(0, 99), Math.min(999, 6 + 99 * i));
        }
        Check.due("999 at most", x.delay(0, 99), 999);
        Check.due("start", x.barrel(0, 0), 999);
        x.seconds(600);
        x.seconds(398);
        Check.due("second 998", x.delay(0, 1), 999);
        x.seconds(1);
        Check.dueThrow("second 999", () -> x.delay(0, 1), IllegalStateException.class);
    }

    private static void door() {
        BarrelNight x = town();
        Check.due("door", x.door(0, 7), 10);
        Check.due("door", x.door(0, 89), 99);
        Check.due("door", x.door(0, 1), 99);
        Check.due("door", x.door(1, 99), 99);
        Check.due("yard", x.yard(1, 3), 99);
    }

    private static void undo() {
        BarrelNight x = town();
        x.put(0, false);
        x.come(1, 5);
        x.delay(0, 4);
        x.door(1, 9);
        x.seconds(20);
        int caught = x.count(9);
        Check.due("some were caught", caught > 0, true);
        Check.due("undo seconds", x.undo(), true);
        Check.due("second", x.count(6), 0);
        Check.due("caught", x.count(9), 0);
        Check.due("people", x.yard(1, 1), 35);
        Check.due("undo door", x.undo(), true);
        Check.due("door", x.yard(1, 3), 0);
        Check.due("undo delay", x.undo(), true);
        Check.due("start", x.barrel(0, 0), 5);
        Check.due("undo come", x.undo(), true);
        Check.due("people", x.yard(1, 1), 30);
        Check.due("undo put", x.undo(), true);
        Check.due("lane", x.lane(0, 2), 1);
        Check.due("no more", x.undo(), false);
        x.come(0, 1);
        Check.due("law", Check.law(x, "back 2"), 1);
        Check.due("a law: none are remembered", x.undo(), false);
        x.come(0, 1);
        Check.due("a wrong text changes nothing", Check.town(x, "x"), "IllegalArgumentException");
        Check.due("remembered", x.count(13), 1);
        Check.feed(x, "wind 7");
        Check.due("the tape stays", x.undo(), true);
        Check.due("it is there", x.end(6), true);
        Check.due("fault stays", x.fault(), 0);
        x.come(0, 1);
        Check.due("town", Check.of(x::town), 2);
        Check.due("a town: none are remembered", x.undo(), false);
    }

    private static void twelve() {
        BarrelNight x = town();
        for (int i = 1; i <= 15; i++) {
            x.come(0, 1);
            Check.due("remembered", x.count(13), Math.min(12, i));
        }
        for (int i = 11; i >= 0; i--) {
            Check.due("undo", x.undo(), true);
            Check.due("remembered", x.count(13), i);
            Check.due("people", x.yard(0, 1), 23 + i);
        }
        Check.due("no more", x.undo(), false);
        Check.due("people", x.yard(0, 1), 23);
        x.come(0, 4);
        Check.due("one", x.count(13), 1);
        x.undo();
        Check.due("people", x.yard(0, 1), 23);
    }

    private static void image() {
        BarrelNight x = town();
        Check.due("none kept", x.back(), false);
        Check.law(x, "back 3;back 4");
        x.come(0, 1);
        x.image();
        Check.due("the image is no act", x.count(13), 1);
        x.seconds(10);
        x.put(0, false);
        Check.law(x, "");
        Check.due("town", Check.town(x, "yard 1 1 wall 1 door 1 thatch;lane 0 2;bearer 1 1;wind 9;push 9;"
                + "barrel at 0 pace 1 tar 1 weight 1 way 0"), 2);
        Check.due("wrong", Check.town(x, "wind x"), "IllegalArgumentException");
        Check.feed(x, "wind 3");
        x.come(0, 1);
        Check.due("back", x.back(), true);
        int[] want = {2, 2, 1, 1, 1, 2, 0, 51, 0, 0, 0, 2, 0, 0};
        for (int what = 0; what < want.length; what++) {
            Check.due("count " + what, x.count(what), want[what]);
        }
        Check.due("lane", x.lane(0, 2), 1);
        Check.due("fault stays", x.fault(), 5);
        Check.due("none are remembered", x.undo(), false);
        Check.due("the tape stays", Check.of(x::town), 2);
        Check.due("wind", x.count(10), 3);
        Check.due("back once more", x.back(), true);
        Check.due("wind", x.count(10), 0);
        x.come(0, 9);
        x.image();
        x.come(0, 9);
        x.undo();
        Check.due("the image stays", x.back(), true);
        Check.due("one image", x.yard(0, 1), 30);
    }
}
