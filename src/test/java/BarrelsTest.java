/** Promises 9, 20 and 21: barrels that burn, meet and are put off. */
public final class BarrelsTest {
    private static final String YARDS = "yard 9 0 wall 0 door 0;yard 9 0 wall 0 door 0;yard 9 0 wall 0 door 0;"
            + "yard 9 0 wall 0 door 0;lane 0 1;lane 1 2;lane 2 3";

    public static void main(String[] args) {
        burns();
        places();
        wrongNumbers();
        meet();
        meetsLate();
        starts();
        startsBehind2000();
        startsOfSix();
        Check.finish();
    }

    private static String barrel(int at, int pace, String way) {
        return "barrel at " + at + " pace " + pace + " tar 2 weight 1 way " + way;
    }

    private static void burns() {
        BarrelNight x = Check.told(YARDS, barrel(0, 20, "0 1") + ";" + barrel(0, 21, "0 1") + ";" + barrel(0, 1, "0 1 2 3"));
        Check.due("burns", x.barrel(0, 6), 40);
        Check.due("just ends", x.barrel(0, 7), 1);
        Check.due("does not end", x.barrel(1, 7), 0);
        Check.town(x, "wind 3");
        Check.due("by yards of the way", x.barrel(2, 6), 4);
        Check.due("ends", x.barrel(2, 7), 1);
        Check.town(x, "wind 4");
        Check.due("0 at least", x.barrel(2, 6), 0);
        Check.due("does not end", x.barrel(2, 7), 0);
    }

    private static void places() {
        BarrelNight x = Check.told(YARDS, barrel(2, 3, "3 2"));
        int[] want = {-1, -1, 3, 3, 3, 2, 2, 2, -1, -1};
        for (int second = 0; second < want.length; second++) {
            Check.due("at second " + second, x.barrel(0, 5), want[second]);
            Check.due("on at second " + second, x.count(12), want[second] < 0 ? 0 : 1);
            x.seconds(1);
        }
    }

    private static void wrongNumbers() {
        BarrelNight x = Check.told(YARDS, barrel(0, 1, "0") + ";" + barrel(0, 1, "1"));
        Class<IndexOutOfBoundsException> none = IndexOutOfBoundsException.class;
        Class<IllegalArgumentException> wrong = IllegalArgumentException.class;
        Check.dueThrow("meet 2 2", () -> x.meet(2, 2), none);
        Check.dueThrow("meet 0 -1", () -> x.meet(0, -1), none);
        Check.dueThrow("meet 1 1", () -> x.meet(1, 1), wrong);
        Check.dueThrow("starts 2", () -> x.starts(2, 0), none);
        Check.dueThrow("starts -1", () -> x.starts(-1, 1), none);
        Check.dueThrow("starts by 0", () -> x.starts(0, 0), wrong);
        Check.dueThrow("starts by 61", () -> x.starts(0, 61), wrong);
        Check.due("meet none", x.meet(0, 1), -1);
        Check.due("starts", x.starts(1, 60), 0);
    }

    private static void meet() {
        // Change of yards 1 and 2 from second 5 to 6.
        dueMeet(barrel(0, 3, "0 1 2 3"), barrel(0, 3, "3 2 1 0"), 6);
        // In one yard.
        dueMeet(barrel(0, 3, "0 1 2 3"), barrel(1, 3, "3 2 1 0"), 6);
        dueMeet(barrel(0, 4, "0 1"), barrel(7, 1, "1"), 7);
        dueMeet(barrel(0, 4, "0 1"), barrel(8, 1, "1"), -1);
        // The other one ended a second ahead: no change of yards.
        dueMeet(barrel(0, 2, "0 1"), barrel(0, 2, "1"), -1);
        dueMeet(barrel(0, 2, "0 1"), barrel(0, 2, "1 0"), 2);
        dueMeet(barrel(0, 2, "0 1"), barrel(2, 2, "0"), -1);
        dueMeet(barrel(0, 1, "0 1"), barrel(0, 1, "2 3"), -1);
        dueMeet(barrel(0, 1, "0"), barrel(0, 1, "0"), 0);
        // It does not hang on what the second is now.
        BarrelNight x = Check.told(YARDS, barrel(0, 1, "0") + ";" + barrel(0, 1, "0"));
        x.seconds(50);
        Check.due("meet of the past", x.meet(0, 1), 0);
        Check.due("starts of the past", x.starts(1, 1), 1);
    }

    private static void dueMeet(String one, String other, int want) {
        BarrelNight x = Check.told(YARDS, one + ";" + other);
        Check.due("meet " + one + " | " + other, x.meet(0, 1), want);
        Check.due("meet turned " + one + " | " + other, x.meet(1, 0), want);
    }

    private static void meetsLate() {
        dueMeet(barrel(999, 60, "0 1 0 1 0 1 0 1 0 1 0 1 0 1 0 1"), barrel(999, 60, "2 3 2 3 2 3 2 3 2 3 2 3 2 3 2 1"), 999 + 900);
    }

    private static void starts() {
        // Two on one way must be 3 seconds apart; the lesser is put off as little as can be.
        BarrelNight x = Check.told(YARDS, barrel(0, 3, "0 1 2") + ";" + barrel(1, 3, "0 1 2"));
        Check.due("by 1: 0", x.starts(0, 1), 0);
        Check.due("by 1: 1", x.starts(1, 1), 2);
        Check.due("by 2: 1", x.starts(1, 2), 1);
        BarrelNight y = Check.told(YARDS, barrel(2, 3, "0 1 2") + ";" + barrel(0, 3, "0 1 2"));
        Check.due("by 1: 0", y.starts(0, 1), 1);
        Check.due("by 1: 1", y.starts(1, 1), 0);
        Check.due("by 5: 0", y.starts(0, 5), 0);
        Check.due("by 5: 1", y.starts(1, 5), 1);
        Check.due("start stays", y.barrel(0, 0), 2);
        BarrelNight z = Check.told(YARDS, barrel(0, 60, "0") + ";" + barrel(0, 60, "0"));
        Check.due("no way", z.starts(0, 19), -1);
        Check.due("no way", z.starts(1, 19), -1);
        Check.due("three times", z.starts(1, 20), 3);
    }

    private static void startsBehind2000() {
        // Three are apart but for their last place, yard 1, which each has for 60 seconds from 1899 on. Put off by 2
        // and 3 times 34 two of them would be there from 2001 on: no meeting is told of so late.
        BarrelNight x = toldThree(999);
        int[] want = {0, 2, 3};
        for (int barrel = 0; barrel < 3; barrel++) {
            Check.due("by 34: " + barrel, x.starts(barrel, 34), want[barrel]);
            Check.due("by 33: " + barrel, x.starts(barrel, 33), -1);
        }
        // A second less, and they meet at 2000, which still is told of.
        Check.due("at 2000", toldThree(998).starts(0, 34), -1);
    }

    private static BarrelNight toldThree(int start) {
        String yard = "yard 9 0 wall 0 door 0";
        return Check.told(yard + ";" + yard + ";" + yard + ";" + yard + ";" + yard + ";" + yard + ";" + yard,
                "lane 2 0;lane 2 1;lane 4 3;lane 4 1;lane 6 5;lane 6 1",
                barrel(start, 60, "2 0 2 0 2 0 2 0 2 0 2 0 2 0 2 1") + ";"
                + barrel(start, 60, "4 3 4 3 4 3 4 3 4 3 4 3 4 3 4 1") + ";"
                + barrel(start, 60, "6 5 6 5 6 5 6 5 6 5 6 5 6 5 6 1"));
    }

    private static void startsOfSix() {
        String at = barrel(0, 5, "0");
        BarrelNight x = Check.told(YARDS, at + ";" + at + ";" + at + ";" + at + ";" + barrel(0, 5, "1") + ";" + barrel(0, 5, "1"));
        int[] want = {0, 1, 2, 3, 0, 1};
        for (int barrel = 0; barrel < 6; barrel++) {
            Check.due("starts of " + barrel, x.starts(barrel, 5), want[barrel]);
        }
        BarrelNight y = Check.told(YARDS, at + ";" + at + ";" + at + ";" + at + ";" + at + ";" + barrel(0, 5, "1"));
        for (int barrel = 0; barrel < 6; barrel++) {
            Check.due("no way of " + barrel, y.starts(barrel, 5), -1);
        }
    }
}
