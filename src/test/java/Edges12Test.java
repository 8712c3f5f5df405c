/** The edges of promise 12: SECONDS that go by. Above each test stands the sentence that it is of. */
public final class Edges12Test {
    private static final String BARE = "yard 99 0 wall 0 door 0";

    public static void main(String[] args) throws Exception {
        Check.runAll(Edges12Test.class);
    }

    private static String yard(int holds, int people, int wall, int door) {
        return "yard " + holds + " " + people + " wall " + wall + " door " + door;
    }

    private static String barrel(int at, int pace, String way) {
        return "barrel at " + at + " pace " + pace + " tar 9 weight 1 way " + way;
    }

    /** A town without pushing. */
    private static BarrelNight still(String... lines) {
        return Check.told("push 0;" + String.join(";", lines));
    }

    private static void dueCrowd(String what, BarrelNight x, int... people) {
        for (int yard = 0; yard < people.length; yard++) {
            Check.due(what + ": people of " + yard, x.yard(yard, 1), people[yard]);
        }
    }

    // "So many SECONDS (1 to 600) .. IllegalArgumentException: they are none."
    private static void promise12_wrongNumbers() {
        for (int n : new int[] {0, -1, Integer.MIN_VALUE, 601, Integer.MAX_VALUE}) {
            Check.dueRefused(IllegalArgumentException.class, "seconds " + n, x -> x.seconds(n));
        }
    }

    // "So many SECONDS (1 to 600)"; "SECOND is 1 more."
    private static void promise12_oneAnd600() {
        BarrelNight x = new BarrelNight();
        x.seconds(1);
        Check.due("one", x.count(6), 1);
        x.seconds(600);
        Check.due("600 more", x.count(6), 601);
    }

    // "how many were CAUGHT in these": and no others.
    private static void promise12_caughtInTheseAlone() {
        BarrelNight x = still(yard(9, 5, 0, 0), barrel(0, 1, "0"), barrel(3, 1, "0"));
        Check.due("the first three", x.seconds(3), 5);
        Check.due("the fourth", x.seconds(1), 5);
        Check.due("the fifth", x.seconds(1), 0);
        Check.due("in all", x.count(9), 10);
        Check.due("there", x.yard(0, 6), 10);
    }

    // "of PEOPLE there those above WALL are CAUGHT"
    private static void promise12_asManyAsTheWallTakes() {
        int[][] cases = {{5, 5, 0}, {6, 5, 1}, {4, 5, 0}, {0, 0, 0}, {1, 0, 1}, {99, 99, 0}, {100, 99, 1}, {999, 0, 999}};
        for (int[] one : cases) {
            BarrelNight x = still(yard(999, one[0], one[1], 0), barrel(0, 1, "0"));
            Check.due(one[0] + " by a wall of " + one[1], x.seconds(1), one[2]);
        }
    }

    // "(they stay)"
    private static void promise12_whoIsCaughtStays() {
        BarrelNight x = still(yard(9, 9, 2, 0), barrel(0, 1, "0"));
        Check.due("caught", x.seconds(1), 7);
        Check.due("people", x.yard(0, 1), 9);
    }

    // "has come to its YARD in this SECOND (T less START is a multiple of PACE)": not ahead of it, nor behind.
    private static void promise12_caughtInTheSecondOfComing() {
        BarrelNight x = still(yard(9, 3, 0, 0), yard(9, 4, 0, 0), "lane 0 1", barrel(2, 3, "0 1"));
        Check.law(x, "back 0");
        int[] want = {0, 0, 3, 0, 0, 4, 0, 0, 0, 0};
        for (int second = 0; second < want.length; second++) {
            Check.due("second " + second, x.seconds(1), want[second]);
        }
    }

    // "each BARREL that is ON": two in one YARD and SECOND catch twice.
    private static void promise12_twoBarrelsCatchTwice() {
        BarrelNight x = still(yard(9, 5, 1, 0), barrel(0, 3, "0"), barrel(0, 2, "0"), barrel(1, 1, "0"));
        Check.law(x, "back 0");
        Check.due("by the first two", x.seconds(1), 8);
        Check.due("by the third", x.seconds(1), 4);
    }

    // "BARRELS (at most 6 ..)": all of them, and the last one alone.
    private static void promise12_sixBarrels() {
        BarrelNight x = still(yard(9, 5, 0, 0), yard(9, 4, 0, 0), Check.times(5, barrel(0, 1, "0")), barrel(0, 1, "1"));
        Check.due("all six", x.seconds(1), 29);
        Check.due("by the last", x.yard(1, 6), 4);
    }

    // "CAUGHT: in all so far; by YARDS."
    private static void promise12_caughtByYards() {
        BarrelNight x = still(yard(9, 3, 0, 0), yard(9, 4, 0, 0), "lane 0 1", barrel(0, 1, "0 1 0"));
        Check.law(x, "back 0");
        Check.due("all", x.seconds(9), 10);
        Check.due("there twice", x.yard(0, 6), 6);
        Check.due("there once", x.yard(1, 6), 4);
        Check.due("in all", x.count(9), 10);
    }

    // "(a) .. (b)": who is caught is counted ahead of the going back.
    private static void promise12_caughtAheadOfGoingBack() {
        BarrelNight x = still(yard(9, 5, 0, 9), barrel(0, 1, "0"));
        Check.due("caught", x.seconds(1), 5);
        Check.due("then inside", x.yard(0, 4), 5);
    }

    // "BACK .. go at most, as many as there are" (10 without a text)
    private static void promise12_asManyAsThereAre() {
        int[][] cases = {{0, 0}, {9, 9}, {10, 10}, {11, 10}, {99, 10}};
        for (int[] one : cases) {
            BarrelNight x = still(yard(99, one[0], 99, 0), BARE, "lane 0 1", barrel(0, 60, "0"));
            x.seconds(1);
            dueCrowd(one[0] + " people", x, one[0] - one[1], one[1]);
        }
    }

    // "BACK .. go at most": none, if it is 0; all, if it is more than there are.
    private static void promise12_backOfNoneAndOfAll() {
        BarrelNight x = still(yard(9, 5, 9, 9), BARE, "lane 0 1", barrel(0, 60, "0"));
        Check.law(x, "back 0");
        x.seconds(5);
        dueCrowd("back 0", x, 5, 0);
        Check.due("inside", x.yard(0, 4), 0);
        BarrelNight y = still(yard(999, 999, 99, 99), "yard 999 0 wall 0 door 0", "lane 0 1", barrel(0, 60, "0"));
        Check.law(y, Check.times(12, "back 999"));
        y.seconds(1);
        dueCrowd("back of more than all", y, 0, 900);
        Check.due("inside", y.yard(0, 4), 99);
    }

    // "first INSIDE, up to DOOR": none of a door of 0, some, all.
    private static void promise12_insideUpToTheDoor() {
        int[][] cases = {{0, 0, 10}, {1, 1, 9}, {9, 9, 1}, {10, 10, 0}, {11, 10, 0}, {99, 10, 0}};
        for (int[] one : cases) {
            BarrelNight x = still(yard(99, 20, 99, one[0]), BARE, "lane 0 1", barrel(0, 60, "0"));
            x.seconds(1);
            Check.due("inside of " + one[0], x.yard(0, 4), one[1]);
            dueCrowd("door " + one[0], x, 10, one[2]);
        }
    }

    // "first INSIDE, up to DOOR": one that is full takes no more.
    private static void promise12_aFullDoor() {
        BarrelNight x = still(yard(99, 20, 99, 3), BARE, "lane 0 1", barrel(0, 60, "0"));
        x.seconds(2);
        Check.due("inside", x.yard(0, 4), 3);
        dueCrowd("all are gone", x, 0, 17);
        BarrelNight y = still(yard(99, 20, 99, 12), BARE, "lane 0 1", barrel(0, 60, "0"));
        y.seconds(2);
        Check.due("inside of two times", y.yard(0, 4), 12);
        dueCrowd("the rest of the second time", y, 0, 8);
    }

    // "then to YARDS beside it .. as many as these HOLD": full ones take none, and who finds no place stays.
    private static void promise12_fullYardsBeside() {
        BarrelNight x = still(yard(99, 20, 99, 0), yard(5, 5, 0, 0), yard(5, 1, 0, 0), yard(0, 0, 0, 0),
                "lane 0 1", "lane 0 2", "lane 0 3", barrel(0, 60, "0"));
        x.seconds(1);
        dueCrowd("one second", x, 16, 5, 5, 0);
        x.seconds(1);
        dueCrowd("two seconds", x, 16, 5, 5, 0);
    }

    // "to YARDS beside it ..": where there is none all stay.
    private static void promise12_noYardBeside() {
        BarrelNight x = still(yard(99, 20, 99, 0), BARE, BARE, "lane 1 2", barrel(0, 60, "0"));
        x.seconds(1);
        dueCrowd("alone", x, 20, 0, 0);
    }

    // "by numbers": not in the order of the LANES, and by LANES told either way.
    private static void promise12_yardsBesideByNumbers() {
        BarrelNight x = still(yard(4, 0, 0, 0), yard(99, 50, 99, 0), yard(3, 0, 0, 0), BARE,
                "lane 1 3", "lane 2 1", "lane 0 1", barrel(0, 60, "1"));
        x.seconds(1);
        dueCrowd("4 and 3 and 3", x, 4, 40, 3, 3);
    }

    // "by open LANES": not by shut ones.
    private static void promise12_noneGoByAShutLane() {
        BarrelNight x = still(yard(99, 20, 99, 0), BARE, BARE, "lane 0 1", "lane 0 2", "shut 0", barrel(0, 60, "0"));
        x.seconds(1);
        dueCrowd("by the other one", x, 10, 0, 10);
        x.put(1, false);
        x.seconds(1);
        dueCrowd("both are shut", x, 10, 0, 10);
    }

    // "that are not HEATED": neither the YARD where the barrel is nor the next one takes any.
    private static void promise12_noneGoToAHeatedYard() {
        BarrelNight x = still(yard(99, 20, 99, 0), yard(99, 5, 99, 0), BARE, "lane 0 1", "lane 0 2", barrel(0, 60, "0 1"));
        x.seconds(1);
        dueCrowd("from 0 to 2 alone, from 1 to none", x, 10, 5, 10);
    }

    // "Each YARD, by numbers, that is HEATED": the lesser one goes first, though the barrel is at the other.
    private static void promise12_heatedYardsByNumbers() {
        BarrelNight x = still(yard(99, 20, 99, 0), yard(99, 20, 99, 0), yard(7, 0, 0, 0), "lane 0 1", "lane 0 2",
                "lane 1 2", barrel(0, 60, "1 0"));
        x.seconds(1);
        dueCrowd("0 takes all the room", x, 13, 20, 7);
    }

    // "(the last YARD of a WAY has no next one)": none of it goes on to the first.
    private static void promise12_theLastYardHasNoNextOne() {
        BarrelNight x = still(yard(99, 30, 99, 0), yard(99, 30, 99, 0), BARE, "lane 0 1", "lane 0 2", barrel(0, 1, "0 1"));
        x.seconds(1);
        dueCrowd("from 0", x, 20, 30, 10);
        x.seconds(1);
        dueCrowd("from 1 to 0, which is cold", x, 30, 20, 10);
        x.seconds(1);
        dueCrowd("behind the end", x, 30, 20, 10);
    }

    // "BACK (by the least BARREL that heats it)"
    private static void promise12_theLeastBarrelTellsBack() {
        BarrelNight x = still(BARE, yard(99, 50, 99, 0), BARE, "lane 0 1", "lane 1 2", "wind 0",
                "barrel at 1 pace 9 tar 9 weight 3 way 0 1;barrel at 0 pace 9 tar 9 weight 8 way 1");
        Check.law(x, "back 1 if weight < 4;back 5 if weight > 7;back 20 if at");
        x.seconds(1);
        dueCrowd("by the greater, as the less is not on yet", x, 25, 25, 0);
        x.seconds(1);
        dueCrowd("by the less, which is not at it", x, 25, 24, 1);
    }

    // "at: the BARREL is AT it": the last SECOND ahead of it, and the first of it.
    private static void promise12_atIsWhereTheBarrelIs() {
        BarrelNight x = still(yard(99, 50, 99, 0), yard(99, 50, 99, 0), BARE, "lane 0 2", "lane 1 2", "lane 0 1",
                barrel(0, 2, "0 1"));
        Check.law(x, "back 1 if at;back 10 if not at");
        x.seconds(1);
        dueCrowd("at 0", x, 49, 40, 11);
        x.seconds(1);
        dueCrowd("at 0 still", x, 48, 30, 22);
        x.seconds(1);
        dueCrowd("at 1, from which they go to 0 first", x, 49, 29, 22);
    }

    // "INSIDE come out, as many as it HOLDS": all, some, none.
    private static void promise12_comeOutAsManyAsItHolds() {
        int[][] cases = {{1, 6, 0}, {5, 10, 0}, {6, 10, 1}, {9, 10, 4}, {10, 10, 5}};
        for (int[] one : cases) {
            BarrelNight x = still(yard(10, 5, 9, 9), barrel(0, 1, "0"));
            x.seconds(1);
            Check.due("inside", x.yard(0, 4), 5);
            Check.due("come", x.come(0, one[0]), one[0]);
            x.seconds(1);
            Check.due("people behind " + one[0], x.yard(0, 1), one[1]);
            Check.due("inside behind " + one[0], x.yard(0, 4), one[2]);
            x.seconds(9);
            Check.due("inside for good behind " + one[0], x.yard(0, 4), one[2]);
        }
    }

    // "Each YARD .. that is not HEATED": as long as it is none come out.
    private static void promise12_noneComeOutOfAHeatedYard() {
        BarrelNight x = still(yard(10, 5, 9, 9), BARE, "lane 0 1", barrel(0, 2, "1 0"));
        int[] want = {5, 5, 5, 5, 0};
        for (int second = 0; second < want.length; second++) {
            x.seconds(1);
            Check.due("inside behind second " + second, x.yard(0, 4), want[second]);
        }
    }

    // "(b) .. (c)": who goes back to a YARD takes the room ahead of those INSIDE.
    private static void promise12_goingBackAheadOfComingOut() {
        BarrelNight x = still(yard(10, 10, 99, 0), yard(10, 5, 9, 9), "lane 0 1", barrel(1, 1, "0"), barrel(0, 1, "1"));
        x.seconds(1);
        Check.due("inside", x.yard(1, 4), 5);
        x.seconds(1);
        dueCrowd("10 went to 1", x, 0, 10);
        Check.due("inside still", x.yard(1, 4), 5);
    }

    /** Two yards side by side. */
    private static void duePush(int push, int one, int other, int holds, int want) {
        BarrelNight x = Check.told(yard(99, one, 0, 0) + ";" + yard(holds, other, 0, 0) + ";lane 0 1;push " + push);
        x.seconds(1);
        dueCrowd("push " + push + " of " + one + " and " + other, x, one - want, other + want);
        BarrelNight y = Check.told(yard(holds, other, 0, 0) + ";" + yard(99, one, 0, 0) + ";lane 0 1;push " + push);
        y.seconds(1);
        dueCrowd("push " + push + " of " + other + " and " + one, y, other + want, one - want);
    }

    // "if one has more PEOPLE than the other, .. by half of how many more it has, rounded down"
    private static void promise12_pushByHalf() {
        duePush(9, 7, 7, 99, 0);
        duePush(9, 8, 7, 99, 0);
        duePush(9, 9, 7, 99, 1);
        duePush(9, 10, 7, 99, 1);
        duePush(9, 24, 7, 99, 8);
    }

    // "PUSH go to that one at most": 0 to 9.
    private static void promise12_pushAtMost() {
        duePush(0, 99, 0, 99, 0);
        duePush(1, 99, 0, 99, 1);
        duePush(9, 99, 0, 99, 9);
        duePush(9, 19, 0, 99, 9);
        duePush(9, 18, 0, 99, 9);
        duePush(9, 17, 0, 99, 8);
    }

    // "and as many as that HOLDS": none into a full one.
    private static void promise12_pushAsManyAsItHolds() {
        duePush(9, 99, 5, 5, 0);
        duePush(9, 99, 5, 6, 1);
        duePush(9, 99, 0, 8, 8);
        duePush(9, 99, 0, 9, 9);
        duePush(9, 99, 0, 0, 0);
    }

    // "Each open LANE": not a shut one, and one more there is twice.
    private static void promise12_pushByOpenLanes() {
        BarrelNight x = Check.told(yard(99, 50, 0, 0) + ";" + BARE + ";lane 0 1;lane 1 0;push 2");
        x.seconds(1);
        dueCrowd("by two", x, 46, 4);
        x.put(0, false);
        x.seconds(1);
        dueCrowd("by one", x, 44, 6);
        x.put(1, false);
        x.seconds(1);
        dueCrowd("by none", x, 44, 6);
    }

    // "by numbers": of LANES, each behind what the one before has moved.
    private static void promise12_pushByNumbersOfLanes() {
        String yards = yard(99, 8, 0, 0) + ";" + BARE + ";" + BARE + ";push 9;";
        BarrelNight x = Check.told(yards + "lane 0 1;lane 1 2");
        x.seconds(1);
        dueCrowd("0 to 1 first", x, 4, 2, 2);
        BarrelNight y = Check.told(yards + "lane 1 2;lane 0 1");
        y.seconds(1);
        dueCrowd("1 to 2 first", y, 4, 4, 0);
    }

    // "of which neither YARD is HEATED"
    private static void promise12_noPushWhereItIsHeated() {
        for (String way : new String[] {"0", "1", "0 1", "2 0", "2 1"}) {
            BarrelNight x = Check.told(yard(99, 50, 99, 0) + ";" + BARE + ";" + BARE + ";lane 0 1;lane 0 2;lane 1 2;"
                    + "shut 1;shut 2;push 9;" + barrel(0, 60, way));
            Check.law(x, "back 0");
            x.seconds(1);
            dueCrowd("way " + way, x, 50, 0);
        }
        BarrelNight x = Check.told(yard(99, 50, 99, 0) + ";" + BARE + ";" + BARE + ";lane 0 1;push 9;" + barrel(0, 60, "2"));
        x.seconds(1);
        dueCrowd("another yard is heated", x, 41, 9);
    }

    // "(b) .. (d)": who has gone back is pushed on in the same SECOND.
    private static void promise12_goingBackAheadOfPushing() {
        BarrelNight x = Check.told(yard(99, 10, 99, 0) + ";" + BARE + ";" + BARE + ";lane 0 1;lane 1 2;push 9;"
                + barrel(0, 1, "0"));
        x.seconds(1);
        dueCrowd("half of 10", x, 0, 5, 5);
    }

    // "(c) .. (d)": who has come out is pushed on in the same SECOND.
    private static void promise12_comingOutAheadOfPushing() {
        BarrelNight x = Check.told(yard(99, 5, 99, 9) + ";" + BARE + ";lane 0 1;push 9;" + barrel(0, 1, "0"));
        x.seconds(1);
        dueCrowd("inside", x, 0, 0);
        x.seconds(1);
        dueCrowd("half of 5", x, 3, 2);
    }

    // "PEOPLE and INSIDE of all together stay as many as came."
    private static void promise12_allTogetherStay() {
        BarrelNight x = Check.everything();
        Check.due("at first", x.count(7) + x.count(8), 58);
        for (int i = 0; i < 60; i++) {
            x.seconds(1);
            Check.due("at " + x.count(6), x.count(7) + x.count(8), 58);
        }
    }

    // "So many SECONDS": as one call or as many.
    private static void promise12_oneCallOrMany() {
        BarrelNight x = Check.everything();
        BarrelNight y = Check.everything();
        int caught = 0;
        for (int i = 0; i < 55; i++) {
            caught += x.seconds(1);
        }
        Check.due("caught", y.seconds(55), caught);
        Check.due("all that is seen but for the acts", Check.seen(y).subList(5, 18), Check.seen(x).subList(5, 18));
        for (int yard = 0; yard < 3; yard++) {
            Check.due("people of " + yard, y.yard(yard, 1), x.yard(yard, 1));
        }
    }
}
