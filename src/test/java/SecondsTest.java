/** Promises 12 and 17 to 19: seconds, trials, the quickest pace, the fewest doors. */
public final class SecondsTest {
    public static void main(String[] args) {
        wrongNumbers();
        caught();
        back();
        comeOut();
        push();
        trial();
        opens();
        mends();
        mendsOfEightYards();
        Check.finish();
    }

    private static void wrongNumbers() {
        BarrelNight x = new BarrelNight();
        Class<IllegalArgumentException> wrong = IllegalArgumentException.class;
        Check.dueThrow("seconds 0", () -> x.seconds(0), wrong);
        Check.dueThrow("seconds -1", () -> x.seconds(-1), wrong);
        Check.dueThrow("seconds 601", () -> x.seconds(601), wrong);
        Check.dueThrow("trial 0", () -> x.trial(0), wrong);
        Check.dueThrow("trial 601", () -> x.trial(601), wrong);
        Check.dueThrow("mends 0", () -> x.mends(0), wrong);
        Check.dueThrow("mends 100", () -> x.mends(100), wrong);
        Check.dueThrow("opens 0", () -> x.opens(0), IndexOutOfBoundsException.class);
        Check.due("nothing happened", x.count(6), 0);
        Check.due("nothing is remembered", x.count(13), 0);
        Check.due("seconds 600", x.seconds(600), 0);
        Check.due("second", x.count(6), 600);
    }

    private static void caught() {
        // Two barrels come to yard 0 in one second: both catch the 15 above the wall, who stay.
        BarrelNight x = Check.told("yard 20 20 wall 5 door 0;barrel at 1 pace 3 tar 1 weight 1 way 0;"
                + "barrel at 1 pace 2 tar 1 weight 1 way 0");
        Check.due("ahead of the start", x.seconds(1), 0);
        Check.due("two barrels on", x.count(12), 2);
        Check.due("in the second of the coming", x.seconds(1), 30);
        Check.due("not again", x.seconds(1), 0);
        Check.due("one barrel on", x.count(12), 1);
        Check.due("at", x.barrel(0, 5), 0);
        Check.due("not on", x.barrel(1, 5), -1);
        Check.due("they stay", x.yard(0, 1), 20);
        Check.due("caught there", x.yard(0, 6), 30);
        Check.due("caught", x.count(9), 30);
        x.seconds(1);
        Check.due("none on", x.count(12), 0);
        BarrelNight y = Check.told("yard 20 5 wall 5 door 0;barrel at 0 pace 3 tar 1 weight 1 way 0");
        Check.due("all by the walls", y.seconds(5), 0);
    }

    private static void back() {
        // Yard 2 is at, 3 is next: 10 go inside first (3), then to 0 (4), then to 1 (2), by numbers.
        BarrelNight x = Check.told("yard 4 0 wall 0 door 0;yard 9 7 wall 0 door 0;yard 50 20 wall 99 door 3;"
                + "yard 50 20 wall 99 door 0;yard 50 0 wall 0 door 0;lane 3 2;lane 2 1;lane 0 2;lane 4 2;shut 3;push 9",
                "barrel at 0 pace 2 tar 9 weight 1 way 2 3");
        x.seconds(1);
        int[] people = {4, 9, 11, 20, 0};
        for (int yard = 0; yard < 5; yard++) {
            Check.due("people " + yard, x.yard(yard, 1), people[yard]);
        }
        Check.due("inside", x.yard(2, 4), 3);
        Check.due("all inside", x.count(8), 3);
        Check.due("all people", x.count(7), 44);
        Check.due("heated at", x.yard(2, 7), 1);
        Check.due("heated next", x.yard(3, 7), 1);
        Check.due("not heated", x.yard(1, 7), 0);
        x.seconds(1);
        Check.due("the door is full, all is full", x.yard(2, 1), 11);
        Check.due("the last yard has no next one", x.yard(2, 7) + 2 * x.yard(3, 7), 2);
    }

    private static void comeOut() {
        // 5 are inside of yard 0; ahead of the third second others come, so that it can hold 2 more alone.
        BarrelNight x = Check.told("yard 10 5 wall 9 door 9;barrel at 0 pace 2 tar 9 weight 1 way 0");
        x.seconds(2);
        Check.due("inside", x.yard(0, 4), 5);
        Check.due("come", x.come(0, 8), 8);
        x.seconds(1);
        Check.due("people", x.yard(0, 1), 10);
        Check.due("inside", x.yard(0, 4), 3);
        x.seconds(9);
        Check.due("inside still", x.yard(0, 4), 3);
    }

    private static void push() {
        BarrelNight x = Check.told("yard 50 20 wall 0 door 0;yard 50 3 wall 0 door 0;yard 4 2 wall 0 door 0;"
                + "lane 1 0;lane 0 2;push 9");
        x.seconds(1);
        // Lane 0: half of 17 is 8; lane 1: half of 10 is 5, but yard 2 holds 2 more.
        Check.due("people 0", x.yard(0, 1), 10);
        Check.due("people 1", x.yard(1, 1), 11);
        Check.due("people 2", x.yard(2, 1), 4);
        x.seconds(1);
        Check.due("half of 1 is none", x.yard(0, 1), 10);
        BarrelNight y = Check.told("yard 50 20 wall 0 door 0;yard 50 0 wall 0 door 0;yard 9 0 wall 0 door 0;"
                + "lane 0 1;lane 1 2;lane 0 1;shut 2;barrel at 1 pace 1 tar 1 weight 1 way 2");
        y.seconds(1);
        Check.due("push is 1 at first", y.yard(1, 1), 1);
        y.seconds(1);
        Check.due("no push by a lane to a heated yard", y.yard(2, 1), 0);
        Check.due("by the other one", y.yard(1, 1), 2);
    }

    private static void trial() {
        BarrelNight x = Check.told("yard 50 40 wall 0 door 0;yard 50 30 wall 0 door 0;lane 0 1;push 0;"
                + "barrel at 4 pace 3 tar 1 weight 1 way 0 1");
        Check.due("trial 4", x.trial(4), 0);
        Check.due("trial 5", x.trial(5), 40);
        Check.due("trial 7", x.trial(7), 40);
        Check.due("trial 8", x.trial(8), 70);
        Check.due("trial 600", x.trial(600), 70);
        Check.due("nothing stays", x.count(6) + x.count(9) + x.count(13), 0);
        Check.due("as the seconds do", x.seconds(600), 70);
        Check.due("behind all", x.trial(600), 0);
    }

    private static void opens() {
        // The 40 of yard 1 go back by 10 a second, from the second of the start on: 4 seconds ahead are needed.
        String town = "yard 50 0 wall 0 door 0;yard 50 40 wall 0 door 0;yard 50 0 wall 0 door 0;lane 0 1;lane 1 2;push 0;"
                + "barrel at 0 pace 1 tar 9 weight 1 way 0 1";
        BarrelNight x = Check.told(town);
        Check.due("opens", x.opens(0), 4);
        Check.due("pace stays", x.barrel(0, 1), 1);
        // 600 need all of the 60 seconds, and 601 more than there are.
        String far = "yard 999 0 wall 0 door 0;yard 999 600 wall 0 door 0;yard 999 0 wall 0 door 0;lane 0 1;lane 1 2;push 0;"
                + "barrel at 0 pace 1 tar 9 weight 1 way 0 1";
        Check.due("opens of 600", Check.told(far).opens(0), 60);
        Check.due("opens of 601", Check.told(far.replace("600", "601")).opens(0), -1);
        // In a trial of 300 seconds a pace of more seconds may never come there at all.
        BarrelNight y = Check.told("yard 50 0 wall 0 door 0;yard 50 40 wall 39 door 0;lane 0 1;push 0;"
                + "barrel at 250 pace 1 tar 9 weight 1 way 0 1;barrel at 999 pace 1 tar 9 weight 1 way 1");
        Check.law(y, "back 0");
        Check.due("opens when it does not come in time", y.opens(0), 50);
        Check.due("opens of one that is late", y.opens(1), -1);
        BarrelNight z = Check.told(town);
        Check.law(z, "back 0");
        Check.due("opens by none", z.opens(0), -1);
        Check.due("opens by none costs nothing", z.count(6), 0);
    }

    private static void mends() {
        // Either door by 10, or both: the least alone.
        String town = "yard 20 0 wall 0 door 0;yard 20 10 wall 0 door 95;yard 20 10 wall 0 door 0;lane 0 1;lane 0 2;push 0;"
                + "barrel at 0 pace 1 tar 9 weight 1 way 0 1;barrel at 0 pace 1 tar 9 weight 1 way 0 2";
        BarrelNight x = Check.told(town);
        Check.due("caught", x.trial(60), 10);
        Check.due("mends by 10", x.mends(10), 4);
        Check.due("mends by 9", x.mends(9), -1);
        Check.due("door stays", x.yard(2, 3), 0);
        BarrelNight y = Check.told("yard 9 1 wall 0 door 0;yard 9 1 wall 0 door 0;yard 9 0 wall 0 door 0;lane 0 2;lane 2 1;"
                + "push 0;barrel at 0 pace 1 tar 9 weight 1 way 2 1 2 0");
        Check.law(y, "back 9 if inside < 9");
        Check.due("both are caught", y.trial(60), 2);
        Check.due("both doors", y.mends(1), 3);
        // What comes behind 60 seconds is not seen.
        BarrelNight z = Check.told("yard 9 1 wall 0 door 0;barrel at 60 pace 1 tar 9 weight 1 way 0");
        Check.due("not seen", z.mends(1), 0);
        z.seconds(1);
        Check.due("seen", z.mends(1), -1);
    }

    private static void mendsOfEightYards() {
        String yards = "yard 9 0 wall 0 door 0;yard 9 0 wall 0 door 0;yard 9 0 wall 0 door 0;yard 9 0 wall 0 door 0";
        String full = "yard 9 1 wall 0 door 0";
        BarrelNight x = Check.told(yards, "yard 9 0 wall 0 door 0;yard 9 0 wall 0 door 0;yard 9 0 wall 0 door 0;" + full
                + ";lane 0 7;barrel at 0 pace 1 tar 9 weight 1 way 0 7");
        Check.due("yard 7", x.mends(5), 128);
        BarrelNight y = Check.told(yards, yards, full + ";lane 0 8;barrel at 0 pace 1 tar 9 weight 1 way 0 8");
        Check.due("yard 8 is not among them", y.mends(5), -1);
    }
}
