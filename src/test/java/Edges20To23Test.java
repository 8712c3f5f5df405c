/** The edges of promises 20 to 23: MEET, STARTS, CHANGES, LAST. Above each test stands the sentence that it is of. */
public final class Edges20To23Test {
    private static final Class<IndexOutOfBoundsException> INDEX = IndexOutOfBoundsException.class;
    private static final Class<IllegalArgumentException> WRONG = IllegalArgumentException.class;
    // What is none of a town of 2 BARRELS.
    private static final int[] NOWHERE = {-1, 2, 6, Integer.MIN_VALUE, Integer.MAX_VALUE};
    private static final String YARDS = Check.times(4, "yard 9 0 wall 0 door 0") + ";lane 0 1;lane 1 2;lane 2 3";

    public static void main(String[] args) throws Exception {
        Check.runAll(Edges20To23Test.class);
    }

    private static String barrel(int at, int pace, String way) {
        return "barrel at " + at + " pace " + pace + " tar 9 weight 1 way " + way;
    }

    private static void dueMeet(String one, String other, int want) {
        BarrelNight x = Check.told(YARDS, one + ";" + other);
        Check.due("meet " + one + " | " + other, x.meet(0, 1), want);
        Check.due("meet turned " + one + " | " + other, x.meet(1, 0), want);
    }

    // "IndexOutOfBoundsException: there is no such .. BARREL": either of them.
    private static void promise20_noSuchBarrel() {
        for (int barrel : NOWHERE) {
            Check.dueRefused(INDEX, "first " + barrel, x -> x.meet(barrel, 1));
            Check.dueRefused(INDEX, "second " + barrel, x -> x.meet(0, barrel));
        }
    }

    // "IllegalArgumentException: both are one."; "Of several exceptions the one told first is thrown"
    private static void promise20_bothAreOne() {
        Check.dueRefused(WRONG, "0 and 0", x -> x.meet(0, 0));
        Check.dueRefused(WRONG, "1 and 1", x -> x.meet(1, 1));
        for (int barrel : NOWHERE) {
            Check.dueRefused(INDEX, "both " + barrel, x -> x.meet(barrel, barrel));
        }
    }

    // "the first such SECOND (0 to 2000)": SECOND 0.
    private static void promise20_atSecond0() {
        dueMeet(barrel(0, 1, "0"), barrel(0, 1, "0"), 0);
        dueMeet(barrel(0, 5, "2 1"), barrel(0, 9, "2 3"), 0);
    }

    // "both ON at one YARD": the last SECOND of the one is the first of the other, and not quite.
    private static void promise20_theLastSecondOfOne() {
        dueMeet(barrel(0, 4, "0"), barrel(3, 4, "0"), 3);
        dueMeet(barrel(0, 4, "0"), barrel(4, 4, "0"), -1);
        dueMeet(barrel(0, 4, "0 1"), barrel(7, 1, "1"), 7);
        dueMeet(barrel(0, 4, "0 1"), barrel(8, 1, "1"), -1);
        dueMeet(barrel(0, 4, "0 1"), barrel(3, 1, "1"), -1);
        dueMeet(barrel(0, 4, "0 1"), barrel(4, 1, "1"), 4);
        dueMeet(barrel(0, 4, "0 1"), barrel(3, 1, "0"), 3);
        dueMeet(barrel(0, 4, "0 1"), barrel(4, 1, "0"), -1);
    }

    // "the first such SECOND": of several.
    private static void promise20_theFirstOfSeveral() {
        dueMeet(barrel(0, 2, "0 1 0 1"), barrel(5, 1, "0 1 0"), 5);
        dueMeet(barrel(0, 1, "0 1 2 3 2 1 0"), barrel(2, 9, "1"), 5);
    }

    // "BARRELS (at most 6 ..)": the last two.
    private static void promise20_theLastTwo() {
        BarrelNight x = Check.told(YARDS, Check.times(4, barrel(0, 1, "0")) + ";" + barrel(3, 2, "1") + ";" + barrel(4, 2, "1"));
        Check.due("4 and 5", x.meet(4, 5), 4);
        Check.due("5 and 4", x.meet(5, 4), 4);
        Check.due("0 and 5", x.meet(0, 5), -1);
    }

    // "or change YARDS (both ON then and a SECOND ago; each is where the other was)"
    private static void promise20_theyChangeYards() {
        dueMeet(barrel(0, 1, "0 1"), barrel(0, 1, "1 0"), 1);
        dueMeet(barrel(0, 5, "0 1"), barrel(4, 1, "1 0"), 5);
        dueMeet(barrel(0, 3, "0 1 2 3"), barrel(0, 3, "3 2 1 0"), 6);
    }

    // "both ON then and a SECOND ago": not, if the one starts only then, or has ended.
    private static void promise20_noChangeWithOneThatIsNotOn() {
        dueMeet(barrel(0, 1, "0 1"), barrel(1, 1, "0"), -1);
        dueMeet(barrel(0, 1, "0 1"), barrel(0, 1, "1"), -1);
        dueMeet(barrel(0, 5, "0 1"), barrel(5, 1, "0"), -1);
    }

    // "each is where the other was": not, if it is so of one alone.
    private static void promise20_oneBehindTheOther() {
        dueMeet(barrel(0, 1, "0 1 2"), barrel(0, 1, "1 2 3"), -1);
        dueMeet(barrel(0, 3, "0 1 2"), barrel(0, 3, "1 2 3"), -1);
        dueMeet(barrel(0, 3, "0 1 2"), barrel(0, 4, "1 2 3"), 3);
    }

    // "none": on other YARDS, or at other times.
    private static void promise20_none() {
        dueMeet(barrel(0, 60, "0 1"), barrel(0, 60, "2 3"), -1);
        dueMeet(barrel(0, 60, "0 1"), barrel(999, 60, "0 1"), -1);
    }

    // "at some SECOND": whatever SECOND is now.
    private static void promise20_alsoInThePast() {
        BarrelNight x = Check.told(YARDS, barrel(3, 1, "0") + ";" + barrel(3, 1, "0"));
        x.seconds(50);
        Check.due("meet", x.meet(0, 1), 3);
    }

    // "(0 to 2000)": the latest there can be without being put off.
    private static void promise20_theLatest() {
        dueMeet(barrel(999, 60, "0 1 0 1 0 1 0 1 0 1 0 1 0 1 0 1"), barrel(999, 60, "2 3 2 3 2 3 2 3 2 3 2 3 2 3 2 1"), 1899);
    }

    // "IndexOutOfBoundsException: there is no such .. BARREL"; "Of several exceptions the one told first is thrown"
    private static void promise21_noSuchBarrel() {
        for (int barrel : NOWHERE) {
            Check.dueRefused(INDEX, "starts " + barrel, x -> x.starts(barrel, 1));
            Check.dueRefused(INDEX, "starts by none " + barrel, x -> x.starts(barrel, 0));
        }
    }

    // "STARTS by STEP (1 to 60) .. IllegalArgumentException: STEP is none."
    private static void promise21_wrongNumbers() {
        for (int step : new int[] {0, -1, Integer.MIN_VALUE, 61, Integer.MAX_VALUE}) {
            Check.dueRefused(WRONG, "step " + step, x -> x.starts(0, step));
        }
    }

    private static void dueStarts(int step, String barrels, int... want) {
        BarrelNight x = Check.told(YARDS, barrels);
        for (int barrel = 0; barrel < want.length; barrel++) {
            Check.due("starts of " + barrel + " by " + step + " in " + barrels, x.starts(barrel, step), want[barrel]);
        }
    }

    // "STEP (1 to 60)": the least and the greatest.
    private static void promise21_stepsOf1And60() {
        dueStarts(1, barrel(0, 1, "0") + ";" + barrel(0, 1, "0"), 0, 1);
        dueStarts(60, barrel(0, 60, "0") + ";" + barrel(0, 60, "0"), 0, 1);
        dueStarts(59, barrel(0, 60, "0") + ";" + barrel(0, 60, "0"), 0, 2);
    }

    // "put off by 0 to 3 times STEP": none, three times, and not four times.
    private static void promise21_threeTimes() {
        dueStarts(1, barrel(0, 1, "0"), 0);
        dueStarts(20, barrel(0, 60, "0") + ";" + barrel(0, 60, "0"), 0, 3);
        dueStarts(19, barrel(0, 60, "0") + ";" + barrel(0, 60, "0"), -1, -1);
        dueStarts(5, Check.times(4, barrel(0, 5, "0")), 0, 1, 2, 3);
        dueStarts(5, Check.times(5, barrel(0, 5, "0")), -1, -1, -1, -1, -1);
    }

    // "of all ways the first (BARREL 0 as little as can be, then 1, ..)"
    private static void promise21_theFirstOfAllWays() {
        // 1 could be put off by 0 if 0 were by 1: but 0 comes first.
        dueStarts(3, barrel(0, 3, "0") + ";" + barrel(0, 3, "0"), 0, 1);
        // Put off by none, 0 leaves no way for the others.
        dueStarts(1, barrel(2, 3, "0") + ";" + barrel(0, 3, "0"), 1, 0);
        dueStarts(1, barrel(1, 1, "0") + ";" + barrel(0, 2, "0") + ";" + barrel(0, 2, "0"), 1, 0, 3);
        dueStarts(1, barrel(0, 9, "3") + ";" + barrel(1, 1, "0") + ";" + barrel(0, 2, "0") + ";" + barrel(0, 2, "0"), 0, 1, 0, 3);
    }

    // "BARRELS (at most 6 ..)": all of them.
    private static void promise21_sixBarrels() {
        dueStarts(5, Check.times(4, barrel(0, 5, "0")) + ";" + Check.times(2, barrel(0, 5, "1")), 0, 1, 2, 3, 0, 1);
        dueStarts(5, Check.times(5, barrel(0, 5, "0")) + ";" + barrel(0, 5, "1"), -1, -1, -1, -1, -1, -1);
        dueStarts(4, Check.times(5, barrel(0, 5, "0")).replaceAll("at 0", "at 900") + ";" + barrel(0, 5, "1"), -1, -1);
    }

    // "so that no two MEET": also those who only change YARDS.
    private static void promise21_alsoNoChange() {
        dueStarts(1, barrel(0, 1, "0 1") + ";" + barrel(0, 1, "1 0"), 0, 2);
    }

    // "(also above 999)"
    private static void promise21_above999() {
        dueStarts(60, barrel(999, 60, "0") + ";" + barrel(999, 60, "0"), 0, 1);
        dueStarts(60, Check.times(4, barrel(999, 60, "0")), 0, 1, 2, 3);
    }

    /** Three with ways of their own, but for their last YARD, where each is from start + 900 for 60 seconds. */
    private static BarrelNight togetherAtTheEnd(int start) {
        String lanes = "lane 2 0;lane 2 1;lane 4 3;lane 4 1;lane 6 5;lane 6 1";
        return Check.told(Check.times(7, "yard 9 0 wall 0 door 0") + ";" + lanes,
                barrel(start, 60, "2 0 2 0 2 0 2 0 2 0 2 0 2 0 2 1") + ";" + barrel(start, 60, "4 3 4 3 4 3 4 3 4 3 4 3 4 3 4 1")
                + ";" + barrel(start, 60, "6 5 6 5 6 5 6 5 6 5 6 5 6 5 6 1"));
    }

    // "MEET: .. SECOND (0 to 2000)": what is put off so far that it would be at 2001 is no meeting, at 2000 it is one.
    private static void promise21_noMeetingBehind2000() {
        int[] want = {0, 2, 3};
        for (int barrel = 0; barrel < 3; barrel++) {
            Check.due("at 2001: " + barrel, togetherAtTheEnd(999).starts(barrel, 34), want[barrel]);
            Check.due("at 2000: " + barrel, togetherAtTheEnd(998).starts(barrel, 34), -1);
        }
    }

    // "NONE, if there is no way": for each BARREL, also one that meets none.
    private static void promise21_noneForEach() {
        dueStarts(1, barrel(0, 9, "0") + ";" + barrel(0, 9, "3") + ";" + barrel(0, 9, "0"), -1, -1, -1);
    }

    // STARTS only tells: no START changes.
    private static void promise21_noStartChanges() {
        BarrelNight x = Check.told(YARDS, barrel(5, 3, "0") + ";" + barrel(5, 3, "0"));
        Check.due("by 1 step", x.starts(1, 3), 1);
        Check.due("start", x.barrel(1, 0), 5);
        Check.due("remembered", x.count(13), 0);
    }

    /** A BARREL of weight 10 on a way of so many YARDS, and BEARERS by STRONG and FAMILY. */
    private static BarrelNight borne(int yards, int... bearers) {
        StringBuilder way = new StringBuilder("0");
        for (int i = 1; i < yards; i++) {
            way.append(' ').append(i % 2);
        }
        StringBuilder all = new StringBuilder("wind 0");
        for (int i = 0; i < bearers.length; i += 2) {
            all.append(";bearer ").append(bearers[i]).append(' ').append(bearers[i + 1]);
        }
        return Check.told(YARDS, "barrel at 0 pace 1 tar 1 weight 10 way " + way, all.toString());
    }

    private static void dueRow(BarrelNight x, int... row) {
        Check.due("how many", x.changes(0, -1), row.length == 0 ? -1 : row.length);
        for (int k = 0; k <= 9; k++) {
            Check.due("the one at " + k, x.changes(0, k), k < row.length ? row[k] : -1);
        }
    }

    // "IndexOutOfBoundsException: there is no such .. BARREL"; "Of several exceptions the one told first is thrown"
    private static void promise22_noSuchBarrel() {
        for (int barrel : NOWHERE) {
            Check.dueRefused(INDEX, "changes " + barrel, x -> x.changes(barrel, -1));
            Check.dueRefused(INDEX, "changes at no k " + barrel, x -> x.changes(barrel, -2));
        }
    }

    // "IllegalArgumentException: k is below NONE."
    private static void promise22_kBelowNone() {
        Check.dueRefused(WRONG, "k -2", x -> x.changes(0, -2));
        Check.dueRefused(WRONG, "least k", x -> x.changes(0, Integer.MIN_VALUE));
    }

    // "the k-th one (from 0 on; NONE behind)"
    private static void promise22_noneBehind() {
        BarrelNight x = borne(3, 20, 1, 10, 2);
        Check.due("the last", x.changes(0, 1), 1);
        Check.due("behind", x.changes(0, 2), -1);
        Check.due("far behind", x.changes(0, Integer.MAX_VALUE), -1);
    }

    // "NONE": without a BEARER, or without enough.
    private static void promise22_none() {
        dueRow(borne(1));
        dueRow(borne(1, 9, 1));
        dueRow(borne(3, 29, 1));
        dueRow(borne(4, 20, 1, 19, 2));
    }

    // "STRONG by WEIGHT, rounded down, YARDS of its WAY (the one in which one takes it is counted)"
    private static void promise22_rounded() {
        dueRow(borne(1, 10, 1), 0);
        dueRow(borne(1, 19, 1), 0);
        dueRow(borne(2, 19, 1));
        dueRow(borne(2, 20, 1), 0);
        dueRow(borne(9, 99, 1), 0);
        dueRow(borne(10, 99, 1));
        dueRow(borne(16, 99, 1, 70, 2), 0, 1);
        dueRow(borne(16, 99, 1, 69, 2));
    }

    // "STRONG by WEIGHT": by the least WEIGHT and by the greatest.
    private static void promise22_byTheLeastAndTheGreatestWeight() {
        int[][] cases = {{1, 1, 2, -1}, {1, 2, 2, 1}, {1, 99, 16, 1}, {20, 19, 1, -1}, {20, 20, 1, 1}, {20, 39, 2, -1},
            {20, 99, 4, 1}, {20, 99, 5, -1}};
        for (int[] one : cases) {
            String way = "0 1 0 1 0 1 0 1 0 1 0 1 0 1 0 1".substring(0, 2 * one[2] - 1);
            BarrelNight x = Check.told(YARDS, "barrel at 0 pace 1 tar 1 weight " + one[0] + " way " + way + ";bearer " + one[1] + " 1");
            Check.due(one[1] + " by " + one[0] + " along " + one[2], x.changes(0, -1), one[3]);
            Check.due("last of " + one[1] + " by " + one[0], x.last(0, 0), one[1] < one[0] ? -1 : 0);
        }
    }

    // "each as far as one can (or to the end)": one need not go all one's RUN.
    private static void promise22_orToTheEnd() {
        dueRow(borne(1, 99, 1), 0);
        dueRow(borne(4, 30, 1, 30, 2), 0, 1);
    }

    // "none twice"
    private static void promise22_noneTwice() {
        dueRow(borne(3, 10, 1, 10, 2));
        dueRow(borne(3, 10, 1, 10, 2, 10, 1), 0, 1, 2);
    }

    // "no two of one FAMILY behind one another": but with another between them.
    private static void promise22_notOfOneFamily() {
        dueRow(borne(2, 10, 1, 10, 1));
        dueRow(borne(2, 10, 0, 10, 0, 10, 9), 0, 2);
        dueRow(borne(4, 20, 1, 20, 1, 10, 2), 0, 2, 1);
        dueRow(borne(4, 20, 1, 20, 1));
    }

    // "RUN": one whose RUN is 0 carries no YARD, and so does not come between two of one FAMILY.
    private static void promise22_oneWhoCarriesNothing() {
        dueRow(borne(4, 20, 1, 20, 1, 9, 2));
    }

    // "the fewest": ahead of the least row.
    private static void promise22_theFewestFirst() {
        dueRow(borne(2, 10, 0, 10, 1, 20, 2), 2);
        dueRow(borne(3, 10, 0, 10, 1, 20, 2), 0, 2);
    }

    // "the first such row (the least first one, then the second, ..)"
    private static void promise22_theFirstRow() {
        dueRow(borne(3, 20, 0, 10, 1, 20, 2, 10, 3), 0, 1);
        dueRow(borne(3, 10, 0, 10, 1, 10, 2, 20, 3, 20, 4), 0, 3);
        dueRow(borne(4, 10, 0, 20, 1, 20, 1, 20, 2), 1, 3);
    }

    // "BEARERS (at most 9 ..)": all nine in one row.
    private static void promise22_allNine() {
        dueRow(borne(9, 10, 1, 10, 1, 10, 1, 10, 1, 10, 1, 10, 2, 10, 2, 10, 2, 10, 2), 0, 5, 1, 6, 2, 7, 3, 8, 4);
        dueRow(borne(9, 10, 1, 10, 1, 10, 1, 10, 1, 10, 1, 10, 1, 10, 2, 10, 2, 10, 2));
        dueRow(borne(10, 10, 0, 10, 1, 10, 2, 10, 3, 10, 4, 10, 5, 10, 6, 10, 7, 10, 8));
    }

    // "IndexOutOfBoundsException: there is no such .. BARREL"; "Of several exceptions the one told first is thrown"
    private static void promise23_noSuchBarrel() {
        for (int barrel : NOWHERE) {
            Check.dueRefused(INDEX, "last " + barrel, x -> x.last(barrel, 0));
            Check.dueRefused(INDEX, "last of no year " + barrel, x -> x.last(barrel, -1));
        }
    }

    // "LAST in a YEAR (0 to 999) .. IllegalArgumentException: the YEAR is none."
    private static void promise23_noSuchYear() {
        for (int year : new int[] {-1, Integer.MIN_VALUE, 1000, Integer.MAX_VALUE}) {
            Check.dueRefused(WRONG, "year " + year, x -> x.last(0, year));
        }
    }

    // "NONE without": without a BEARER, or one who can carry one YARD.
    private static void promise23_noneWithout() {
        Check.due("nobody", borne(1).last(0, 0), -1);
        Check.due("nobody who can", borne(1, 9, 0, 1, 1).last(0, 999), -1);
        Check.due("a wrong year without", Check.of(() -> borne(1).last(0, 1000)), "IllegalArgumentException");
    }

    // "that can carry one YARD": STRONG is WEIGHT just so.
    private static void promise23_justOneYard() {
        Check.due("just", borne(16, 9, 0, 10, 0).last(0, 0), 1);
        Check.due("again", borne(16, 9, 0, 10, 0).last(0, 1), 1);
    }

    // "(the FAMILIES that have such, by numbers; each its least number first, going round)"
    private static void promise23_goingRound() {
        // Family 0: 3; family 2: 1, 4, 5; family 9: 0. 2 cannot carry one yard.
        BarrelNight x = borne(1, 10, 9, 99, 2, 9, 0, 20, 0, 10, 2, 11, 2);
        int[] want = {3, 1, 0, 3, 4, 0, 3, 5, 0, 3, 1, 0};
        for (int year = 0; year < want.length; year++) {
            Check.due("year " + year, x.last(0, year), want[year]);
        }
    }

    // "the FAMILIES that have such": one of which none can carry has no turn.
    private static void promise23_aFamilyWithoutSuch() {
        BarrelNight x = borne(1, 9, 0, 10, 5, 9, 7);
        Check.due("year 0", x.last(0, 0), 1);
        Check.due("year 1", x.last(0, 1), 1);
    }

    // "LAST in a YEAR (0 to 999)": the last one.
    private static void promise23_year999() {
        // 999 is the third of 3 families' turn 333: the first of three, or the second of two.
        Check.due("of three families", borne(1, 10, 0, 10, 1, 10, 2).last(0, 999), 0);
        Check.due("of one with nine", borne(1, 10, 4, 10, 4, 10, 4, 10, 4, 10, 4, 10, 4, 10, 4, 10, 4, 10, 4).last(0, 999), 0);
        Check.due("of one with two", borne(1, 10, 4, 10, 4).last(0, 999), 1);
        Check.due("of two with two each", borne(1, 10, 4, 10, 4, 10, 3, 10, 3).last(0, 999), 1);
    }
}
