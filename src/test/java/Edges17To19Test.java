import java.util.List;

/** The edges of promises 17 to 19: TRIAL, OPENS, MENDS. Above each test stands the sentence that it is of. */
public final class Edges17To19Test {
    private static final Class<IllegalArgumentException> WRONG = IllegalArgumentException.class;

    public static void main(String[] args) throws Exception {
        Check.runAll(Edges17To19Test.class);
    }

    private static String barrel(int at, int pace, String way) {
        return "barrel at " + at + " pace " + pace + " tar 9 weight 1 way " + way;
    }

    private static void dueNothingStays(String what, Check.CallOf call) {
        BarrelNight x = Check.everything();
        Check.feed(x, "wind 3");
        List<Integer> before = Check.seen(x);
        call.answer(x);
        Check.due("all that is seen behind " + what, Check.seen(x), before);
        Check.due("the tape behind " + what, x.end(7), false);
        Check.due("the tape behind " + what, x.end(6), true);
    }

    // "for N SECONDS (1 to 600) .. IllegalArgumentException: N is none."
    private static void promise17_wrongNumbers() {
        for (int n : new int[] {0, -1, Integer.MIN_VALUE, 601, Integer.MAX_VALUE}) {
            Check.dueRefused(WRONG, "trial " + n, x -> x.trial(n));
        }
    }

    // "for N SECONDS": a coming in the last of them, and in the one behind.
    private static void promise17_theLastSecond() {
        String town = "yard 9 5 wall 0 door 0;";
        Check.due("1 of 0", Check.told(town + barrel(0, 1, "0")).trial(1), 5);
        Check.due("1 of 1", Check.told(town + barrel(1, 1, "0")).trial(1), 0);
        Check.due("600 of 599", Check.told(town + barrel(599, 1, "0")).trial(600), 5);
        Check.due("600 of 600", Check.told(town + barrel(600, 1, "0")).trial(600), 0);
    }

    // "all goes on .. for N SECONDS": to the last YARD of the longest WAY at the slowest PACE.
    private static void promise17_theSlowestAndTheLongest() {
        String way = "0 1 0 1 0 1 0 1 0 1 0 1 0 1 0 1";
        BarrelNight x = Check.told("yard 9 0 wall 0 door 0;yard 9 5 wall 0 door 0;lane 0 1;push 0;" + barrel(0, 60, way));
        Check.law(x, "back 0");
        Check.due("60", x.trial(60), 0);
        Check.due("61", x.trial(61), 5);
        Check.due("540", x.trial(540), 20);
        Check.due("541", x.trial(541), 25);
        x.seconds(600);
        Check.due("300", x.trial(300), 10);
        Check.due("301", x.trial(301), 15);
        Check.due("600", x.trial(600), 15);
    }

    // "BARRELS (at most 6 ..)": the last one counts, and the trial goes on until it has come.
    private static void promise17_sixBarrels() {
        BarrelNight x = Check.told("yard 9 5 wall 0 door 0;" + Check.times(5, barrel(0, 1, "0")) + ";" + barrel(9, 1, "0"));
        Check.due("five", x.trial(9), 25);
        Check.due("six", x.trial(10), 30);
    }

    // "all goes on from now": not from SECOND 0 on, and without those CAUGHT before.
    private static void promise17_fromNowOn() {
        BarrelNight x = Check.told("yard 9 5 wall 0 door 0;" + barrel(0, 1, "0") + ";" + barrel(10, 1, "0"));
        x.seconds(1);
        Check.due("caught", x.count(9), 5);
        Check.due("9 seconds", x.trial(9), 0);
        Check.due("10 seconds", x.trial(10), 5);
        Check.due("600 seconds", x.trial(600), 5);
        x.seconds(600);
        Check.due("behind all", x.trial(600), 0);
    }

    // "nothing stays"
    private static void promise17_nothingStays() {
        dueNothingStays("trial", x -> x.trial(600));
    }

    // "A TRIAL: all goes on ..: how many would be CAUGHT in these": as many as the SECONDS themselves catch.
    private static void promise17_asTheSecondsDo() {
        for (int n : new int[] {1, 2, 3, 4, 5, 37, 38, 40, 41, 600}) {
            BarrelNight x = Check.everything();
            Check.due("trial " + n, x.trial(n), x.seconds(n));
        }
    }

    // "IndexOutOfBoundsException: there is no such .. BARREL"
    private static void promise18_noSuchBarrel() {
        for (int barrel : new int[] {-1, 2, 6, Integer.MIN_VALUE, Integer.MAX_VALUE}) {
            Check.dueRefused(IndexOutOfBoundsException.class, "opens " + barrel, x -> x.opens(barrel));
        }
    }

    /** The people of yard 1 go back by 10 a second from the start on, and a pace gives them so many seconds. */
    private static BarrelNight goingBack(int people, int pace) {
        return Check.told("yard 999 0 wall 0 door 0;yard 999 " + people + " wall 0 door 0;yard 999 0 wall 0 door 0;"
                + "lane 0 1;lane 1 2;push 0;" + barrel(0, pace, "0 1"));
    }

    // "the least PACE (1 to 60), in place of its own": the least of all, the greatest, and none.
    private static void promise18_theLeastTheGreatestAndNone() {
        Check.due("1", goingBack(10, 30).opens(0), 1);
        Check.due("2", goingBack(11, 30).opens(0), 2);
        Check.due("59", goingBack(590, 30).opens(0), 59);
        Check.due("60", goingBack(591, 30).opens(0), 60);
        Check.due("60", goingBack(600, 1).opens(0), 60);
        Check.due("none", goingBack(601, 60).opens(0), -1);
    }

    // "BARRELS (at most 6 ..)": OPENS for the last one.
    private static void promise18_theSixthBarrel() {
        BarrelNight x = Check.told("yard 99 0 wall 0 door 0;yard 99 20 wall 0 door 0;yard 99 0 wall 0 door 0;lane 0 1;lane 1 2;"
                + "push 0;" + Check.times(5, barrel(0, 1, "0")), barrel(0, 1, "0 1"));
        Check.due("opens", x.opens(5), 2);
        Check.due("not by another one's pace", x.opens(4), -1);
    }

    // "in a TRIAL of 300 SECONDS": a coming in the last of them, and in the one behind.
    private static void promise18_the300thSecond() {
        String town = "yard 9 5 wall 0 door 0;";
        Check.due("at 299", Check.told(town + barrel(299, 1, "0")).opens(0), -1);
        Check.due("at 300", Check.told(town + barrel(300, 1, "0")).opens(0), 1);
        BarrelNight x = Check.told(town + barrel(300, 1, "0"));
        x.seconds(1);
        Check.due("at 300 from 1 on", x.opens(0), -1);
    }

    // "at which nobody is CAUGHT": by no other BARREL either.
    private static void promise18_byNoOtherBarrel() {
        BarrelNight x = Check.told("yard 9 5 wall 0 door 0;yard 9 0 wall 0 door 0;" + barrel(0, 9, "0") + ";" + barrel(0, 9, "1"));
        Check.due("the other one catches", x.opens(1), -1);
        Check.due("its own pace does not help", x.opens(0), -1);
    }

    // "in a TRIAL": of a BARREL that is ON the place is by the other PACE.
    private static void promise18_aBarrelThatIsOn() {
        // Of 40 people 20 may stay, and 10 go back each second from 10 on: a pace of 3 comes to them at 12.
        BarrelNight x = Check.told("yard 99 0 wall 0 door 0;yard 99 40 wall 20 door 0;yard 99 0 wall 0 door 0;"
                + "lane 0 1;lane 1 2;push 0;" + barrel(9, 40, "0 1"));
        Check.law(x, "back 0");
        x.seconds(10);
        Check.law(x, "back 10");
        Check.due("on", x.barrel(0, 5), 0);
        Check.due("opens", x.opens(0), 3);
        BarrelNight y = Check.told("yard 99 0 wall 0 door 0;yard 99 40 wall 20 door 0;" + barrel(1, 40, "1"));
        Check.due("one yard: all paces are alike", y.opens(0), -1);
        y.seconds(2);
        Check.due("it has come already", y.opens(0), 1);
    }

    // "in place of its own", "A TRIAL: .. nothing stays"
    private static void promise18_nothingStays() {
        dueNothingStays("opens", x -> x.opens(0));
        dueNothingStays("opens", x -> x.opens(1));
    }

    // "MENDS by M (1 to 99) .. IllegalArgumentException: M is none."
    private static void promise19_wrongNumbers() {
        for (int n : new int[] {0, -1, Integer.MIN_VALUE, 100, Integer.MAX_VALUE}) {
            Check.dueRefused(WRONG, "mends " + n, x -> x.mends(n));
        }
    }

    /** The people of yard 0 must be inside in one second. */
    private static BarrelNight intoDoor(int people, int door) {
        BarrelNight x = Check.told("yard 999 " + people + " wall 0 door " + door + ";yard 9 0 wall 0 door 0;lane 0 1;"
                + "push 0;" + barrel(0, 1, "1 0"));
        Check.law(x, "back 999");
        return x;
    }

    // "the DOOR is M larger": just large enough, and one too little.
    private static void promise19_justLargeEnough() {
        Check.due("by 1", intoDoor(1, 0).mends(1), 1);
        Check.due("by 5 of 5", intoDoor(5, 0).mends(5), 1);
        Check.due("by 4 of 5", intoDoor(5, 0).mends(4), -1);
        Check.due("by 99", intoDoor(99, 0).mends(99), 1);
    }

    // "M larger (99 at most)"
    private static void promise19_99AtMost() {
        Check.due("99 of 1 and 98", intoDoor(99, 1).mends(98), 1);
        Check.due("99 of 1 and 99", intoDoor(99, 1).mends(99), 1);
        Check.due("100 of 1 and 99", intoDoor(100, 1).mends(99), -1);
    }

    // "the fewest YARDS": none, if nobody is CAUGHT as it is.
    private static void promise19_noneAreNeeded() {
        Check.due("none", intoDoor(5, 5).mends(1), 0);
        Check.due("nobody there", intoDoor(0, 0).mends(99), 0);
    }

    // "in a TRIAL of 60 SECONDS": a coming in the last of them, and in the one behind.
    private static void promise19_the60thSecond() {
        String town = "yard 9 5 wall 0 door 0;";
        Check.due("at 59", Check.told(town + barrel(59, 1, "0")).mends(9), -1);
        Check.due("at 60", Check.told(town + barrel(60, 1, "0")).mends(9), 0);
        BarrelNight x = Check.told(town + barrel(60, 1, "0"));
        x.seconds(1);
        Check.due("at 60 from 1 on", x.mends(9), -1);
    }

    /** Two of yard 2 go inside, or one each to yards 0 and 1, where they are caught but for the doors. */
    private static BarrelNight oneDoorOrTwo() {
        return Check.told("yard 1 0 wall 0 door 0;yard 1 0 wall 0 door 0;yard 9 2 wall 9 door 0;yard 0 0 wall 0 door 0;"
                + "lane 2 0;lane 2 1;lane 3 0;lane 3 1;push 0;" + barrel(0, 60, "2"), barrel(1, 1, "3 0") + ";" + barrel(1, 1, "3 1"));
    }

    // "the fewest YARDS": ahead of the least as bits.
    private static void promise19_theFewestFirst() {
        Check.due("2 alone, not 0 and 1", oneDoorOrTwo().mends(2), 4);
    }

    // "of several the least as bits"
    private static void promise19_ofSeveralTheLeast() {
        // 0 and 1, or 0 and 2.
        Check.due("0 and 1", oneDoorOrTwo().mends(1), 3);
    }

    // "none (YARDS 0 to 7 alone)"
    private static void promise19_yards0To7Alone() {
        String bare = "yard 9 0 wall 0 door 0";
        String full = "yard 9 1 wall 0 door 0";
        Check.due("yard 7", Check.told(Check.times(7, bare) + ";" + full + ";lane 0 7;" + barrel(0, 1, "0 7")).mends(1), 128);
        Check.due("yard 8", Check.told(Check.times(8, bare) + ";" + full + ";lane 0 8;" + barrel(0, 1, "0 8")).mends(1), -1);
        Check.due("yard 8 needs none", Check.told(Check.times(9, bare) + ";lane 0 8;" + barrel(0, 1, "0 8")).mends(1), 0);
    }

    // "the fewest YARDS": all eight of them.
    private static void promise19_allEight() {
        String full = "yard 1 1 wall 0 door 0";
        StringBuilder lanes = new StringBuilder("lane 8 0");
        StringBuilder way = new StringBuilder("8 0");
        for (int yard = 1; yard < 8; yard++) {
            lanes.append(";lane 8 ").append(yard);
            way.append(" 8 ").append(yard);
        }
        BarrelNight x = Check.told(Check.times(8, full) + ";yard 0 0 wall 0 door 0;push 0", lanes.toString(),
                barrel(0, 1, way.toString()));
        Check.due("caught", x.trial(60), 8);
        Check.due("mends", x.mends(1), 255);
    }

    // "none"
    private static void promise19_none() {
        Check.due("no second to go inside", Check.told("yard 9 5 wall 0 door 0;" + barrel(0, 1, "0")).mends(99), -1);
    }

    // "A TRIAL: .. nothing stays"
    private static void promise19_nothingStays() {
        dueNothingStays("mends", x -> x.mends(99));
    }
}
