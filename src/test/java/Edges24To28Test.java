import java.util.Arrays;
import java.util.List;

/** The edges of promises 24 to 28: AMBULANCE, KEPT, SPARKS, LET IN, SPAN. Above each test stands its sentence. */
public final class Edges24To28Test {
    private static final String WRONG = "IllegalArgumentException";
    private static final String YARD = "yard 9 4 wall 0 door 0";
    private static final String THATCH = "yard 9 0 wall 0 door 0 thatch";
    private static final String BARE = "yard 9 0 wall 0 door 0";

    public static void main(String[] args) throws Exception {
        Check.runAll(Edges24To28Test.class);
    }

    private static String barrel(int at, int pace, String way) {
        return "barrel at " + at + " pace " + pace + " tar 9 weight 1 way " + way;
    }

    private static String heavy(int weight, String way) {
        return "barrel at 0 pace 1 tar 9 weight " + weight + " way " + way;
    }

    /** LANES from each YARD to the next one. */
    private static String line(int from, int to) {
        StringBuilder all = new StringBuilder("push 1");
        for (int yard = from; yard < to; yard++) {
            all.append(";lane ").append(yard).append(' ').append(yard + 1);
        }
        return all.toString();
    }

    // "IndexOutOfBoundsException: there is no such YARD": either of them.
    private static void promise24_noSuchYard() {
        for (int yard : new int[] {-1, 3, 16, Integer.MIN_VALUE, Integer.MAX_VALUE}) {
            Check.dueRefused(IndexOutOfBoundsException.class, "from " + yard, x -> x.ambulance(yard, 0));
            Check.dueRefused(IndexOutOfBoundsException.class, "to " + yard, x -> x.ambulance(0, yard));
            Check.dueRefused(IndexOutOfBoundsException.class, "both " + yard, x -> x.ambulance(yard, yard));
        }
    }

    // "0 from one to itself"
    private static void promise24_fromOneToItself() {
        BarrelNight x = Check.told(YARD + ";" + YARD + ";" + barrel(1, 60, "0"));
        Check.due("free", x.ambulance(1, 1), 0);
        Check.due("free as yet", x.ambulance(0, 0), 0);
    }

    // "at no SECOND (now, too) it is in a YARD where a BARREL is AT then": now.
    private static void promise24_whereABarrelIsNow() {
        BarrelNight x = Check.told(YARD + ";" + YARD + ";lane 0 1;" + barrel(1, 2, "0"));
        Check.due("a second ahead", x.ambulance(0, 1), 1);
        x.seconds(1);
        Check.due("now", x.ambulance(0, 1), -1);
        Check.due("now, to itself", x.ambulance(0, 0), -1);
        x.seconds(1);
        Check.due("the last second", x.ambulance(0, 1), -1);
        x.seconds(1);
        Check.due("behind it", x.ambulance(0, 1), 1);
    }

    // "at no SECOND .. it is in a YARD where a BARREL is AT then": it waits until the last SECOND of it is over.
    private static void promise24_itWaits() {
        BarrelNight x = Check.told(Check.times(3, YARD) + ";lane 0 1;lane 1 2;" + barrel(0, 5, "1"));
        Check.due("to where it was", x.ambulance(0, 1), 5);
        Check.due("through", x.ambulance(0, 2), 6);
        BarrelNight y = Check.told(Check.times(3, YARD) + ";lane 0 1;lane 1 2;" + barrel(1, 5, "1"));
        Check.due("just too late", y.ambulance(0, 1), 6);
        BarrelNight z = Check.told(Check.times(3, YARD) + ";lane 0 1;lane 1 2;" + barrel(2, 5, "1"));
        Check.due("just ahead of it", z.ambulance(0, 2), 2);
    }

    // "each second it stays or goes on": where it can do neither there is none.
    private static void promise24_itCannotStay() {
        BarrelNight x = Check.told(YARD + ";" + YARD + ";" + YARD + ";lane 0 1;lane 1 2;" + barrel(0, 9, "1") + ";"
                + barrel(4, 1, "0"));
        Check.due("no place to go", x.ambulance(0, 2), -1);
        BarrelNight y = Check.told(YARD + ";" + YARD + ";" + YARD + ";lane 0 1;lane 1 2;" + barrel(0, 9, "1"));
        Check.due("it may stay", y.ambulance(0, 2), 10);
    }

    // "goes on by an open LANE": past a BARREL that comes the other way, as only where it is AT counts.
    private static void promise24_pastABarrel() {
        BarrelNight x = Check.told(YARD + ";" + YARD + ";lane 0 1;" + barrel(0, 1, "1 0"));
        Check.due("they change yards", x.ambulance(0, 1), 1);
    }

    // "goes on by an open LANE": not by a shut one.
    private static void promise24_noShutLane() {
        BarrelNight x = Check.told(Check.times(3, YARD) + ";lane 0 1;lane 1 2;lane 0 2;shut 2");
        Check.due("round", x.ambulance(0, 2), 2);
        x.put(2, true);
        Check.due("straight", x.ambulance(0, 2), 1);
        x.put(2, false);
        x.put(0, false);
        Check.due("none", x.ambulance(0, 2), -1);
        Check.due("none back", x.ambulance(2, 0), -1);
    }

    // "the fewest seconds (300 at most ..); none"
    private static void promise24_300AtMost() {
        String five = barrel(0, 60, "1") + ";" + barrel(60, 60, "1") + ";" + barrel(120, 60, "1") + ";" + barrel(180, 60, "1")
                + ";" + barrel(240, 60, "1");
        String yards = YARD + ";" + YARD + ";lane 0 1;";
        Check.due("300", Check.told(yards + five).ambulance(0, 1), 300);
        BarrelNight x = Check.told(yards + five + ";" + barrel(300, 1, "1"));
        Check.due("301", x.ambulance(0, 1), -1);
        x.seconds(1);
        Check.due("300 from 1 on", x.ambulance(0, 1), 300);
        Check.due("nothing passes", x.count(6), 1);
    }

    // "YARDS (at most 16 ..)": from the first to the last.
    private static void promise24_sixteenYards() {
        BarrelNight x = Check.told(Check.times(14, YARD), YARD + ";" + YARD, line(0, 7), line(7, 15));
        Check.due("to the last", x.ambulance(0, 15), 15);
        Check.due("to the first", x.ambulance(15, 0), 15);
    }

    // "none, if some YARD cannot be come to from any two": there is no YARD at all, so there are no two.
    private static void promise25_noYard() {
        Check.due("no yard", new BarrelNight().keep(), -1);
    }

    // "(one YARD alone: it and itself)"
    private static void promise25_oneYardAlone() {
        Check.due("one yard", Check.told(YARD).keep(), 0);
    }

    // "the two YARDS (the less first)": of two they are all.
    private static void promise25_twoYards() {
        Check.due("apart", Check.told(YARD + ";" + YARD).keep(), 1);
        Check.due("with a lane", Check.told(YARD + ";" + YARD + ";lane 1 0").keep(), 1);
    }

    // "the two YARDS": no one twice, though the first one alone would do.
    private static void promise25_noOneTwice() {
        Check.due("a star of three", Check.told(Check.times(3, YARD) + ";lane 0 1;lane 2 0").keep(), 1);
        Check.due("a star of five", Check.told(Check.times(5, YARD) + ";lane 0 1;lane 2 0;lane 0 3;lane 0 4").keep(), 1);
    }

    // "none, if some YARD cannot be come to from any two"
    private static void promise25_threeApart() {
        Check.due("three apart", Check.told(Check.times(3, YARD)).keep(), -1);
        Check.due("two of three together", Check.told(Check.times(3, YARD) + ";lane 0 2").keep(), 1);
        Check.due("two and two", Check.told(Check.times(4, YARD) + ";lane 0 2;lane 1 3").keep(), 1);
        Check.due("two and one and one", Check.told(Check.times(4, YARD) + ";lane 0 2").keep(), -1);
    }

    // "by open LANES"
    private static void promise25_openLanesAlone() {
        BarrelNight x = Check.told(Check.times(3, YARD) + ";lane 1 2;lane 2 1;shut 0");
        Check.due("by the one that is open", x.keep(), 1);
        x.put(1, false);
        Check.due("by none", x.keep(), -1);
    }

    // "the greatest of all YARDS' least STEPS .. (from either) is the least"
    private static void promise25_theLeastOfTheGreatest() {
        // A line of 16: each of two reaches 4 STEPS, so that the first can stand at 2 at the least.
        BarrelNight x = Check.told(Check.times(14, YARD), YARD + ";" + YARD, line(0, 7), line(7, 15));
        Check.due("a line of 16", x.keep(), 211);
        BarrelNight y = Check.told(Check.times(6, YARD) + ";" + line(0, 5));
        Check.due("a line of 6", y.keep(), 104);
    }

    // "of several the first"
    private static void promise25_ofSeveralTheFirst() {
        Check.due("a ring of four", Check.told(Check.times(4, YARD) + ";" + line(0, 3) + ";lane 3 0").keep(), 1);
        Check.due("a line of three", Check.told(Check.times(3, YARD) + ";" + line(0, 2)).keep(), 1);
    }

    // "100 times the first and the second": of 14 and 15.
    private static void promise25_theLastTwo() {
        StringBuilder lanes = new StringBuilder("push 1");
        for (int yard = 0; yard < 13; yard++) {
            lanes.append(";lane ").append(yard).append(' ').append(yard < 7 ? 14 : 15);
        }
        BarrelNight x = Check.told(Check.times(14, YARD), YARD + ";" + YARD, lanes.toString(), "lane 13 15");
        Check.due("two stars", x.keep(), 1415);
    }

    // "if WIND plus WEIGHT is more than 8"
    private static void promise26_moreThan8() {
        Check.due("8", Check.told(THATCH + ";wind 0;" + heavy(8, "0")).sparks(false), 0);
        Check.due("9", Check.told(THATCH + ";wind 0;" + heavy(9, "0")).sparks(false), 1);
        Check.due("5 and 3", Check.told(THATCH + ";wind 5;" + heavy(3, "0")).sparks(false), 0);
        Check.due("5 and 4", Check.told(THATCH + ";wind 5;" + heavy(4, "0")).sparks(false), 1);
        Check.due("9 and 1", Check.told(THATCH + ";wind 9;" + heavy(1, "0")).sparks(false), 1);
    }

    // "for a BARREL": each by its own WEIGHT and WAY.
    private static void promise26_byItsOwnWeight() {
        BarrelNight x = Check.told(THATCH + ";" + THATCH + ";" + heavy(8, "0") + ";" + heavy(9, "1"));
        Check.due("the heavy one's yard alone", x.sparks(false), 2);
    }

    // "a YARD with thatch"
    private static void promise26_noThatch() {
        BarrelNight x = Check.told(BARE + ";" + THATCH + ";lane 0 1;" + heavy(20, "0 1"));
        Check.due("danger", x.sparks(false), 2);
        Check.due("no thatch at all", Check.told(BARE + ";" + heavy(20, "0")).sparks(false), 0);
    }

    // "whose WAY goes through it or a YARD beside it (any LANE)": a shut one, too; not two STEPS away.
    private static void promise26_besideByAnyLane() {
        BarrelNight x = Check.told(Check.times(4, THATCH) + ";lane 0 1;lane 2 1;lane 2 3;shut 0;" + heavy(20, "1"));
        Check.due("danger", x.sparks(false), 7);
    }

    // "whose WAY goes through it": from its first YARD to its last, whenever.
    private static void promise26_theWholeWay() {
        String way = "0 1 0 1 0 1 0 1 0 1 0 1 0 1 0 2";
        BarrelNight x = Check.told(Check.times(5, THATCH) + ";lane 0 1;lane 0 2;lane 2 3;lane 4 3;" + heavy(20, way));
        x.seconds(600);
        Check.due("danger", x.sparks(false), 15);
    }

    // "BUCKETS: the fewest YARDS": none, if none is in danger.
    private static void promise26_noBuckets() {
        Check.due("no yard", new BarrelNight().sparks(true), 0);
        Check.due("no danger", Check.told(THATCH + ";" + heavy(8, "0")).sparks(true), 0);
    }

    // "(each guards itself and those beside it by any LANE)"
    private static void promise26_guardedByAnyLane() {
        BarrelNight x = Check.told(Check.times(3, THATCH) + ";lane 0 1;lane 1 2;shut 0;shut 1;" + heavy(20, "1"));
        Check.due("the middle one", x.sparks(true), 2);
        BarrelNight y = Check.told(BARE + ";" + THATCH + ";lane 0 1;" + heavy(20, "1"));
        Check.due("one without thatch guards, too", y.sparks(true), 1);
    }

    // "the fewest .. of several the least as bits"
    private static void promise26_theFewestThenTheLeast() {
        // 0 and 1 guard all of the line 2 - 0 - 3, 4 - 1; 5 beside 2, 3, 4 alone is fewer but greater.
        BarrelNight x = Check.told(BARE + ";" + BARE + ";" + Check.times(3, THATCH) + ";" + BARE,
                "lane 0 2;lane 0 3;lane 1 4;lane 5 2;lane 5 3;lane 5 4;" + heavy(20, "5"));
        Check.due("danger", x.sparks(false), 28);
        Check.due("5 alone", x.sparks(true), 32);
        BarrelNight y = Check.told(Check.times(4, THATCH) + ";" + line(0, 3) + ";lane 3 0;" + heavy(20, "0 1 2 3"));
        Check.due("a ring of four: 0 and 1", y.sparks(true), 3);
    }

    // "YARDS (at most 16 ..)", "LANES (at most 24 ..)", "BARRELS (at most 6 ..)": all of them.
    private static void promise26_aFullTown() {
        StringBuilder six = new StringBuilder(heavy(20, "0"));
        for (int yard = 3; yard < 16; yard += 3) {
            six.append(';').append(heavy(20, "" + yard));
        }
        BarrelNight x = Check.told(Check.times(13, THATCH), Check.times(3, THATCH), line(0, 7), line(7, 15),
                Check.times(9, "lane 0 1"), six.toString());
        Check.due("lanes", x.count(1), 24);
        Check.due("danger", x.sparks(false), 65535);
        // From the last on, each bucket as low as can be: 14, 11, 8, 5, 2, and 0.
        Check.due("buckets", x.sparks(true), 1 << 14 | 1 << 11 | 1 << 8 | 1 << 5 | 1 << 2 | 1);
    }

    // "YARDS (at most 16 ..)": the first and the last of them, each alone.
    private static void promise26_sixteenYards() {
        BarrelNight x = Check.told(Check.times(13, THATCH), Check.times(3, THATCH) + ";" + heavy(20, "0") + ";" + heavy(20, "15")
                + ";" + heavy(20, "7"));
        Check.due("danger", x.sparks(false), 1 + (1 << 7) + (1 << 15));
        Check.due("buckets", x.sparks(true), 1 + (1 << 7) + (1 << 15));
    }

    /** Yards of which 6, 0, 27 and 40 still can come; the last is behind a shut lane. */
    private static BarrelNight gates() {
        return Check.told("yard 10 4 wall 0 door 9;yard 20 20 wall 0 door 0;yard 30 3 wall 0 door 0;"
                + "yard 40 0 wall 0 door 0;lane 0 1;lane 1 2;lane 2 3;shut 2");
    }

    // "Sets are bits; of none they count for nothing."
    private static void promise27_gatesThatAreNone() {
        Check.due("no gate", gates().let(0), 0);
        Check.due("16", gates().let(16), 0);
        Check.due("all that are none", gates().let(~15), 0);
        Check.due("the least number", gates().let(Integer.MIN_VALUE), 0);
        Check.due("the greatest number", gates().let(Integer.MAX_VALUE), 73);
        Check.due("all bits", gates().let(-1), 73);
        Check.due("one that is, and some that are none", gates().let(~15 | 8), 40);
    }

    // "of all YARDS that can be come to from a GATE": through a full one, too, but not by a shut LANE.
    private static void promise27_comeToFromAGate() {
        Check.due("from 0 through 1", gates().let(1), 33);
        Check.due("from 2 through 1", gates().let(4), 33);
        Check.due("from a full one", gates().let(2), 33);
        Check.due("not by a shut lane", gates().let(8), 40);
    }

    // "together": each YARD once, though by two GATES.
    private static void promise27_eachYardOnce() {
        Check.due("0 and 2", gates().let(5), 33);
        Check.due("0 and 3", gates().let(9), 73);
    }

    // "how many at most can still come, so that no YARD has more than it HOLDS": none, if all are full.
    private static void promise27_allFull() {
        BarrelNight x = gates();
        x.come(0, 999);
        x.come(2, 999);
        Check.due("full", x.let(7), 0);
        Check.due("but for the last", x.let(15), 40);
        Check.due("none came by it", x.count(7), 60);
    }

    // "what they can still HOLD": who is INSIDE takes no room.
    private static void promise27_whoIsInsideTakesNoRoom() {
        BarrelNight x = Check.told("yard 9 5 wall 9 door 9;barrel at 0 pace 60 tar 1 weight 1 way 0");
        Check.due("at first", x.let(1), 4);
        x.seconds(1);
        Check.due("with five inside", x.let(1), 9);
    }

    // "YARDS (at most 16 ..)": along a line of all.
    private static void promise27_sixteenYards() {
        BarrelNight x = Check.told(Check.times(14, YARD), YARD + ";" + YARD, line(0, 7), line(7, 15));
        Check.due("from the first", x.let(1), 80);
        Check.due("from the last", x.let(1 << 15), 80);
        x.put(14, false);
        Check.due("the last alone", x.let(1 << 15), 5);
    }

    private static final String CAMERAS = "yard 999 4 wall 0 door 0;yard 20 20 wall 0 door 0;yard 0 0 wall 0 door 0";

    private static void dueSpan(Object least, Object most, int... bytes) {
        BarrelNight x = Check.told(CAMERAS);
        Check.due("least", Check.span(x, false, bytes), least);
        Check.due("used up", x.end(1), false);
        Check.due("most", Check.span(x, true, bytes), most);
        Check.due("used up", x.end(1), false);
    }

    // "those told, and 0, or HOLDS, of all others": none told, all told.
    private static void promise28_noneAndAllTold() {
        dueSpan(0, 1019);
        dueSpan(7, 7, 99, 0, 0, 97, 0, 2, 98, 0, 5);
    }

    // "more than it HOLDS": just as many, and one more.
    private static void promise28_asManyAsItHolds() {
        dueSpan(20, 1019, 98, 0, 20);
        dueSpan(WRONG, WRONG, 98, 0, 21);
        dueSpan(999, 1019, 97, 3, 231);
        dueSpan(WRONG, WRONG, 97, 3, 232);
        dueSpan(0, 1019, 99, 0, 0);
        dueSpan(WRONG, WRONG, 99, 0, 1);
        dueSpan(WRONG, WRONG, 97, 255, 255);
        dueSpan(WRONG, WRONG, 98, 1, 0);
    }

    // "how many, the highest first": none told of a YARD is told, too.
    private static void promise28_toldThatNoneAreThere() {
        dueSpan(0, 20, 97, 0, 0);
        dueSpan(256, 276, 97, 1, 0);
        dueSpan(255, 275, 97, 0, 255);
    }

    // "the TAPE tells none that there is": below the first, and behind the last.
    private static void promise28_noSuchYard() {
        dueSpan(WRONG, WRONG, 96, 0, 0);
        dueSpan(WRONG, WRONG, 100, 0, 0);
        dueSpan(WRONG, WRONG, 0, 0, 0);
        dueSpan(WRONG, WRONG, 255, 0, 0);
        dueSpan(WRONG, WRONG, 97 + 32, 0, 0);
        dueSpan(WRONG, WRONG, 97, 0, 0, 100, 0, 0);
        Check.due("without yards", Check.span(new BarrelNight(), false, 97, 0, 0), WRONG);
    }

    // "one twice"
    private static void promise28_oneTwice() {
        dueSpan(WRONG, WRONG, 97, 0, 1, 97, 0, 1);
        dueSpan(WRONG, WRONG, 99, 0, 0, 98, 0, 1, 99, 0, 0);
    }

    // "of each YARD told three bytes": one or two too few tell none.
    private static void promise28_notThreeBytes() {
        dueSpan(WRONG, WRONG, 97);
        dueSpan(WRONG, WRONG, 97, 0);
        dueSpan(WRONG, WRONG, 97, 0, 0, 98);
        dueSpan(WRONG, WRONG, 97, 0, 0, 98, 0);
    }

    // "a call that throws changes nothing but the TAPE, where it is used up"
    private static void promise28_nothingButTheTape() {
        BarrelNight x = Check.everything();
        List<Integer> before = Check.seen(x);
        Check.due("wrong", Check.span(x, true, 97, 0, 1, 97, 0, 1), WRONG);
        Check.due("used up", x.end(1), false);
        Check.due("right", Check.span(x, true, 97, 0, 1), 71);
        Check.due("all that is seen", Check.seen(x), before);
    }

    // "(PEOPLE)": cameras do not hang on those who are there.
    private static void promise28_notThoseWhoAreThere() {
        BarrelNight x = Check.told("yard 9 9 wall 0 door 0;yard 9 9 wall 0 door 0");
        Check.due("least", Check.span(x, false), 0);
        Check.due("most", Check.span(x, true), 18);
        Check.due("fewer are told than are there", Check.span(x, true, 97, 0, 1), 10);
    }

    // "YARDS (at most 16 ..)": all told, and one more.
    private static void promise28_sixteenYards() {
        int[] bytes = new int[51];
        for (int i = 0; i < 17; i++) {
            bytes[3 * i] = 97 + i;
            bytes[3 * i + 2] = 5;
        }
        BarrelNight x = Check.told(Check.times(14, YARD), YARD + ";" + YARD);
        Check.due("16 told", Check.span(x, true, Arrays.copyOf(bytes, 48)), 80);
        Check.due("15 told", Check.span(x, true, Arrays.copyOf(bytes, 45)), 84);
        Check.due("17 told", Check.span(x, true, bytes), WRONG);
    }
}
