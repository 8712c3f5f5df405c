/** The edges of promises 13 to 16: the ACTS. Above each test stands the sentence that it is of. */
public final class Edges13To16Test {
    private static final Class<IndexOutOfBoundsException> INDEX = IndexOutOfBoundsException.class;
    private static final Class<IllegalArgumentException> WRONG = IllegalArgumentException.class;
    private static final Class<IllegalStateException> CANNOT = IllegalStateException.class;
    // What is none of a town of 3 YARDS, 2 LANES, 2 BARRELS.
    private static final int[] NOWHERE = {-1, 3, Integer.MIN_VALUE, Integer.MAX_VALUE};

    public static void main(String[] args) throws Exception {
        Check.runAll(Edges13To16Test.class);
    }

    // "IndexOutOfBoundsException: there is no such .. LANE"
    private static void promise13_noSuchLane() {
        for (int lane : NOWHERE) {
            Check.dueRefused(INDEX, "shut " + lane, x -> x.put(lane, false));
            Check.dueRefused(INDEX, "open " + lane, x -> x.put(lane, true));
        }
        Check.dueRefused(INDEX, "shut 2", x -> x.put(2, false));
        Check.due("the last one", Check.everything().put(1, false), true);
    }

    // "whether that is new"
    private static void promise13_newOrNot() {
        BarrelNight x = Check.everything();
        Check.due("open is not new", x.put(0, true), false);
        Check.due("shut is new", x.put(0, false), true);
        Check.due("shut is not new", x.put(0, false), false);
        Check.due("it is shut", x.lane(0, 2), 0);
        Check.due("open is new", x.put(0, true), true);
        Check.due("it is open", x.lane(0, 2), 1);
        Check.due("the other one is open still", x.lane(1, 2), 1);
    }

    // "ACTS: a LANE is shut, or opened": also if that is not new.
    private static void promise13_anActThoughNotNew() {
        BarrelNight x = Check.everything();
        Check.due("remembered", x.count(13), 2);
        x.put(0, true);
        Check.due("one more", x.count(13), 3);
        Check.due("undo", x.undo(), true);
        Check.due("remembered", x.count(13), 2);
    }

    // "LANES (at most 24 ..)": the greatest one.
    private static void promise13_theLastOf24() {
        String yard = "yard 9 0 wall 0 door 0";
        BarrelNight x = Check.told(yard + ";" + yard, Check.times(12, "lane 0 1"), Check.times(12, "lane 0 1"));
        for (int lane = 0; lane < 23; lane++) {
            x.put(lane, false);
        }
        Check.due("beside by the last", x.yard(0, 8), 2);
        Check.due("shut", x.put(23, false), true);
        Check.due("beside no more", x.yard(0, 8), 0);
        Check.due("open", x.put(23, true), true);
        Check.due("beside again", x.yard(0, 8), 2);
    }

    // "IndexOutOfBoundsException: there is no such YARD"; "Of several exceptions the one told first is thrown"
    private static void promise14_noSuchYard() {
        for (int yard : NOWHERE) {
            Check.dueRefused(INDEX, "come to " + yard, x -> x.come(yard, 1));
            Check.dueRefused(INDEX, "none come to " + yard, x -> x.come(yard, 0));
        }
        Check.due("the last one", Check.everything().come(2, 1), 1);
    }

    // "IllegalArgumentException: they are not 1 to 999."
    private static void promise14_wrongNumbers() {
        for (int n : new int[] {0, -1, Integer.MIN_VALUE, 1000, Integer.MAX_VALUE}) {
            Check.dueRefused(WRONG, n + " come", x -> x.come(0, n));
        }
    }

    // "1 to 999"
    private static void promise14_oneAnd999() {
        BarrelNight x = Check.told("yard 999 0 wall 0 door 0;yard 1 0 wall 0 door 0");
        Check.due("999", x.come(0, 999), 999);
        Check.due("they are there", x.yard(0, 1), 999);
        Check.due("1", x.come(1, 1), 1);
        Check.due("all", x.count(7), 1000);
    }

    // "people come into a YARD, as many as it HOLDS": "how many did".
    private static void promise14_asManyAsItHolds() {
        int[][] cases = {{4, 4}, {5, 5}, {6, 5}, {999, 5}};
        for (int[] one : cases) {
            BarrelNight x = Check.told("yard 9 4 wall 0 door 0");
            Check.due("come " + one[0], x.come(0, one[0]), one[1]);
            Check.due("people", x.yard(0, 1), 4 + one[1]);
        }
    }

    // "as many as it HOLDS": none into a full YARD; an ACT all the same.
    private static void promise14_intoAFullYard() {
        BarrelNight x = Check.told("yard 9 9 wall 0 door 0;yard 0 0 wall 0 door 0");
        Check.due("full", x.come(0, 1), 0);
        Check.due("one that holds none", x.come(1, 999), 0);
        Check.due("people", x.count(7), 9);
        Check.due("remembered", x.count(13), 2);
    }

    // "as many as it HOLDS": who is INSIDE takes no room (INSIDE is no PEOPLE).
    private static void promise14_whoIsInsideTakesNoRoom() {
        BarrelNight x = Check.told("yard 9 5 wall 9 door 9;barrel at 0 pace 60 tar 1 weight 1 way 0");
        x.seconds(1);
        Check.due("inside", x.yard(0, 4), 5);
        Check.due("come", x.come(0, 99), 9);
    }

    // "IndexOutOfBoundsException: there is no such .. BARREL"; "Of several exceptions the one told first is thrown"
    private static void promise15_noSuchBarrel() {
        for (int barrel : NOWHERE) {
            Check.dueRefused(INDEX, "delay of " + barrel, x -> x.delay(barrel, 1));
            Check.dueRefused(INDEX, "delay by none of " + barrel, x -> x.delay(barrel, 0));
        }
        Check.dueRefused(INDEX, "delay of 2", x -> x.delay(2, 1));
        Check.due("the last one", Check.everything().delay(1, 1), 41);
    }

    // "by so many seconds (1 to 99) .. IllegalArgumentException: they are none"
    private static void promise15_wrongNumbers() {
        for (int n : new int[] {0, -1, Integer.MIN_VALUE, 100, Integer.MAX_VALUE}) {
            Check.dueRefused(WRONG, "delay by " + n, x -> x.delay(1, n));
            Check.dueRefused(WRONG, "delay by " + n + " of one that is on", x -> x.delay(0, n));
        }
    }

    // "by so many seconds (1 to 99): START then"
    private static void promise15_oneAnd99() {
        BarrelNight x = Check.everything();
        Check.due("by 1", x.delay(1, 1), 41);
        Check.due("by 99", x.delay(1, 99), 140);
        Check.due("start", x.barrel(1, 0), 140);
        Check.due("the other's start", x.barrel(0, 0), 2);
    }

    // "(999 at most)"
    private static void promise15_999AtMost() {
        String yard = "yard 9 0 wall 0 door 0;";
        int[][] cases = {{899, 99, 998}, {900, 99, 999}, {901, 99, 999}, {998, 1, 999}, {999, 1, 999}, {999, 99, 999}};
        for (int[] one : cases) {
            BarrelNight x = Check.told(yard + "barrel at " + one[0] + " pace 1 tar 1 weight 1 way 0");
            Check.due(one[0] + " by " + one[1], x.delay(0, one[1]), one[2]);
            Check.due("start", x.barrel(0, 0), one[2]);
            Check.due("remembered", x.count(13), 1);
        }
    }

    // "IllegalStateException: it is not above SECOND."
    private static void promise15_startAboveSecond() {
        String town = "yard 9 0 wall 0 door 0;barrel at 3 pace 1 tar 1 weight 1 way 0";
        BarrelNight x = Check.told(town);
        x.seconds(2);
        Check.due("one above", x.delay(0, 1), 4);
        x.seconds(2);
        Check.dueThrow("the same", () -> x.delay(0, 1), CANNOT);
        x.seconds(1);
        Check.dueThrow("ended", () -> x.delay(0, 1), CANNOT);
        BarrelNight y = Check.told(town.replace("at 3", "at 0"));
        Check.dueThrow("0 and 0", () -> y.delay(0, 1), CANNOT);
    }

    // "a call that throws changes nothing": of one that is ON.
    private static void promise15_aBarrelThatIsOn() {
        Check.dueRefused(CANNOT, "delay of one that is on", x -> x.delay(0, 99));
    }

    // "IndexOutOfBoundsException: there is no such YARD"; "Of several exceptions the one told first is thrown"
    private static void promise16_noSuchYard() {
        for (int yard : NOWHERE) {
            Check.dueRefused(INDEX, "door of " + yard, x -> x.door(yard, 1));
            Check.dueRefused(INDEX, "door by none of " + yard, x -> x.door(yard, 0));
        }
        Check.due("the last one", Check.everything().door(2, 1), 1);
    }

    // "so much larger (1 to 99) .. IllegalArgumentException: it is none."
    private static void promise16_wrongNumbers() {
        for (int n : new int[] {0, -1, Integer.MIN_VALUE, 100, Integer.MAX_VALUE}) {
            Check.dueRefused(WRONG, "door by " + n, x -> x.door(0, n));
        }
    }

    // "(99 at most)"
    private static void promise16_99AtMost() {
        int[][] cases = {{0, 1, 1}, {0, 99, 99}, {50, 48, 98}, {50, 49, 99}, {50, 50, 99}, {1, 99, 99}, {99, 1, 99},
            {99, 99, 99}};
        for (int[] one : cases) {
            BarrelNight x = Check.told("yard 9 0 wall 0 door 7;yard 9 0 wall 0 door " + one[0]);
            Check.due(one[0] + " by " + one[1], x.door(1, one[1]), one[2]);
            Check.due("door", x.yard(1, 3), one[2]);
            Check.due("the other door", x.yard(0, 3), 7);
            Check.due("remembered", x.count(13), 1);
        }
    }

    // "first INSIDE, up to DOOR": a larger one takes more from then on.
    private static void promise16_aLargerDoorTakesMore() {
        BarrelNight x = Check.told("yard 99 20 wall 99 door 3;barrel at 0 pace 60 tar 1 weight 1 way 0");
        x.seconds(5);
        Check.due("inside", x.yard(0, 4), 3);
        x.door(0, 1);
        x.seconds(5);
        Check.due("one more", x.yard(0, 4), 4);
    }
}
