import java.util.NoSuchElementException;

/** The edges of promises 7 to 11: what is told of YARDS, LANES, BARRELS, BEARERS. */
public final class Edges07To11Test {
    private static final Class<IndexOutOfBoundsException> INDEX = IndexOutOfBoundsException.class;
    private static final Class<NoSuchElementException> WHAT = NoSuchElementException.class;
    // What is none of a town of 3 YARDS, 2 LANES, 2 BARRELS, 2 BEARERS, as is 3 or 2.
    private static final int[] NOWHERE = {-1, 16, 24, Integer.MIN_VALUE, Integer.MAX_VALUE};
    private static final String YARD = "yard 9 0 wall 0 door 0";

    public static void main(String[] args) throws Exception {
        Check.runAll(Edges07To11Test.class);
    }

    private static String barrel(int at, int pace, int tar, String way) {
        return "barrel at " + at + " pace " + pace + " tar " + tar + " weight 1 way " + way;
    }

    // "IndexOutOfBoundsException: there is no such YARD"; "Of several exceptions the one told first is thrown"
    private static void promise07_noSuchYard() {
        for (int yard : NOWHERE) {
            Check.dueRefused(INDEX, "yard " + yard, x -> x.yard(yard, 0));
        }
        Check.dueRefused(INDEX, "yard 3", x -> x.yard(3, 0));
        Check.dueRefused(INDEX, "yard 3 and no what", x -> x.yard(3, 9));
        Check.due("the last one", Check.everything().yard(2, 0), 20);
    }

    // "NoSuchElementException: another what."
    private static void promise07_anotherWhat() {
        for (int what : new int[] {-1, 9, Integer.MIN_VALUE, Integer.MAX_VALUE}) {
            Check.dueRefused(WHAT, "what " + what, x -> x.yard(0, what));
        }
    }

    // "6 CAUGHT there", "7 1 if it is HEATED", "8 YARDS beside it": each 0 of a YARD of which there is nothing to tell.
    private static void promise07_allOfABareYard() {
        BarrelNight x = Check.told("yard 0 0 wall 0 door 0");
        for (int what = 0; what < 9; what++) {
            Check.due("what " + what, x.yard(0, what), 0);
        }
    }

    // "5 1 with thatch": of the last YARD, and of no other.
    private static void promise07_thatchOfTheLastYard() {
        BarrelNight x = Check.told(Check.times(14, YARD), YARD + ";" + YARD + " thatch");
        for (int yard = 0; yard < 16; yard++) {
            Check.due("thatch of " + yard, x.yard(yard, 5), yard == 15 ? 1 : 0);
        }
    }

    // "8 YARDS beside it by open LANES, as bits": the greatest bit, and not itself.
    private static void promise07_besideTheLastYard() {
        BarrelNight x = Check.told(Check.times(14, YARD), YARD + ";" + YARD + ";lane 0 15;lane 15 14");
        Check.due("beside 15", x.yard(15, 8), 1 + (1 << 14));
        Check.due("beside 0", x.yard(0, 8), 1 << 15);
        Check.due("beside none", x.yard(7, 8), 0);
    }

    // "by open LANES": no shut one.
    private static void promise07_notBesideByAShutLane() {
        BarrelNight x = Check.told(Check.times(3, YARD) + ";lane 0 1;lane 2 0;lane 0 1;shut 0");
        Check.due("one of two is shut", x.yard(0, 8), 6);
        x.put(2, false);
        Check.due("both are shut", x.yard(0, 8), 4);
        Check.due("from the other side", x.yard(1, 8), 0);
        x.put(1, false);
        Check.due("all are shut", x.yard(0, 8), 0);
    }

    // "HEATED at SECOND T: the YARD at which a BARREL that is ON is, and the next one of its WAY (the last YARD of a WAY
    // has no next one)": a SECOND ahead of the START, the first and the last SECOND of each place, and behind the end.
    private static void promise07_heatedSecondBySecond() {
        BarrelNight x = Check.told(Check.times(3, YARD) + ";lane 0 1;lane 1 2;" + barrel(2, 2, 1, "2 1 0"));
        int[] want = {0, 0, 6, 6, 3, 3, 1, 1, 0, 0};
        for (int second = 0; second < want.length; second++) {
            for (int yard = 0; yard < 3; yard++) {
                Check.due("yard " + yard + " at " + second, x.yard(yard, 7), want[second] >> yard & 1);
            }
            x.seconds(1);
        }
    }

    // "by each such BARREL": a YARD that two heat is heated until the latter ends, and 1 is told of it.
    private static void promise07_heatedByTwo() {
        BarrelNight x = Check.told(YARD + ";" + barrel(0, 2, 1, "0") + ";" + barrel(1, 3, 1, "0"));
        int[] want = {1, 1, 1, 1, 0};
        for (int second = 0; second < want.length; second++) {
            Check.due("at " + second, x.yard(0, 7), want[second]);
            x.seconds(1);
        }
    }

    // "IndexOutOfBoundsException: there is no such .. LANE"
    private static void promise08_noSuchLane() {
        for (int lane : NOWHERE) {
            Check.dueRefused(INDEX, "lane " + lane, x -> x.lane(lane, 0));
        }
        Check.dueRefused(INDEX, "lane 2", x -> x.lane(2, 0));
        Check.dueRefused(INDEX, "lane 2 and no what", x -> x.lane(2, 3));
        Check.due("the last one", Check.everything().lane(1, 1), 2);
    }

    // "NoSuchElementException: another what."
    private static void promise08_anotherWhat() {
        for (int what : new int[] {-1, 3, Integer.MIN_VALUE, Integer.MAX_VALUE}) {
            Check.dueRefused(WHAT, "what " + what, x -> x.lane(0, what));
        }
    }

    // "0 the first YARD, 1 the second one": as they were told, the greater first, too.
    private static void promise08_theFirstMayBeTheGreater() {
        BarrelNight x = Check.told(Check.times(14, YARD), YARD + ";" + YARD + ";lane 15 0;lane 0 15");
        Check.due("first", x.lane(0, 0), 15);
        Check.due("second", x.lane(0, 1), 0);
        Check.due("first of the other", x.lane(1, 0), 0);
        Check.due("second of the other", x.lane(1, 1), 15);
    }

    // "IndexOutOfBoundsException: there is no such .. BARREL"
    private static void promise09_noSuchBarrel() {
        for (int barrel : NOWHERE) {
            Check.dueRefused(INDEX, "barrel " + barrel, x -> x.barrel(barrel, 0));
        }
        Check.dueRefused(INDEX, "barrel 2", x -> x.barrel(2, 0));
        Check.dueRefused(INDEX, "barrel 2 and no what", x -> x.barrel(2, 8));
        Check.due("the last one", Check.everything().barrel(1, 0), 40);
    }

    // "NoSuchElementException: another what."
    private static void promise09_anotherWhat() {
        for (int what : new int[] {-1, 8, Integer.MIN_VALUE, Integer.MAX_VALUE}) {
            Check.dueRefused(WHAT, "what " + what, x -> x.barrel(0, what));
        }
    }

    // "5 the YARD where it is AT (NONE, if it is not ON)": from the START to the last SECOND of the last YARD.
    private static void promise09_atSecondBySecond() {
        BarrelNight x = Check.told(Check.times(2, YARD) + ";lane 0 1;" + barrel(2, 3, 1, "1 0 1"));
        int[] want = {-1, -1, 1, 1, 1, 0, 0, 0, 1, 1, 1, -1, -1};
        for (int second = 0; second < want.length; second++) {
            Check.due("at " + second, x.barrel(0, 5), want[second]);
            x.seconds(1);
        }
    }

    // "START is T at most": START 999.
    private static void promise09_onAt999() {
        BarrelNight x = Check.told(YARD + ";" + barrel(999, 1, 1, "0"));
        x.seconds(600);
        x.seconds(398);
        Check.due("at 998", x.barrel(0, 5), -1);
        x.seconds(1);
        Check.due("at 999", x.barrel(0, 5), 0);
        x.seconds(1);
        Check.due("at 1000", x.barrel(0, 5), -1);
    }

    // "BURNS: seconds: TAR times 20, less WIND times 3 for each YARD of its WAY; 0 at least."
    private static void promise09_burns0AtLeast() {
        String ten = barrel(0, 1, 9, "0 1 0 1 0 1 0 1 0 1");
        Check.due("no wind", Check.told(Check.times(2, YARD) + ";lane 0 1;" + ten).barrel(0, 6), 180);
        Check.due("wind 5", Check.told(Check.times(2, YARD) + ";lane 0 1;wind 5;" + ten).barrel(0, 6), 30);
        Check.due("just 0", Check.told(Check.times(2, YARD) + ";lane 0 1;wind 6;" + ten).barrel(0, 6), 0);
        Check.due("0 at least", Check.told(Check.times(2, YARD) + ";lane 0 1;wind 9;" + ten).barrel(0, 6), 0);
        Check.due("the most", Check.told(YARD + ";" + barrel(0, 1, 99, "0")).barrel(0, 6), 1980);
    }

    // "ENDS: whether PACE times YARDS are BURNS at most."
    private static void promise09_endsWithTheLastTar() {
        String yards = Check.times(2, YARD) + ";lane 0 1;";
        Check.due("as many", Check.told(yards + barrel(0, 10, 1, "0 1")).barrel(0, 7), 1);
        Check.due("one too many", Check.told(yards + barrel(0, 7, 1, "0 1 0")).barrel(0, 7), 0);
        Check.due("fewer", Check.told(yards + barrel(0, 6, 1, "0 1 0")).barrel(0, 7), 1);
        Check.due("of none", Check.told(yards + "wind 9;" + barrel(0, 1, 1, "0")).barrel(0, 6), 0);
        Check.due("none is not enough", Check.told(yards + "wind 9;" + barrel(0, 1, 1, "0")).barrel(0, 7), 0);
    }

    // "IndexOutOfBoundsException: there is no such .. BARREL"
    private static void promise10_noSuchBarrel() {
        for (int barrel : NOWHERE) {
            Check.dueRefused(INDEX, "barrel " + barrel, x -> x.step(barrel, 0));
        }
        Check.dueRefused(INDEX, "barrel 2", x -> x.step(2, 0));
        Check.dueRefused(INDEX, "barrel 2 and no step", x -> x.step(2, -1));
        Check.due("the last one", Check.everything().step(1, 1), 1);
    }

    // "The k-th YARD of a WAY (from 0 on); NONE, if there is none."
    private static void promise10_noneAheadAndBehind() {
        BarrelNight x = Check.everything();
        int[] k = {Integer.MIN_VALUE, -16, -1, 0, 2, 3, 15, 16, Integer.MAX_VALUE};
        int[] want = {-1, -1, -1, 0, 2, -1, -1, -1, -1};
        for (int i = 0; i < k.length; i++) {
            Check.due("step " + k[i], x.step(0, k[i]), want[i]);
        }
        Check.due("not one of the next barrel", x.step(0, 17), -1);
        Check.due("not one of the barrel before", x.step(1, -15), -1);
    }

    // "a WAY: 1 to 16 YARDS": the 16th and the one behind it.
    private static void promise10_theSixteenth() {
        String way = "0 1 0 1 0 1 0 1 0 1 0 1 0 1 0 1";
        BarrelNight x = Check.told(Check.times(2, YARD) + ";lane 0 1;" + barrel(0, 1, 1, way) + ";" + barrel(0, 1, 1, "0"));
        Check.due("15", x.step(0, 15), 1);
        Check.due("16", x.step(0, 16), -1);
        Check.due("of a way of one", x.step(1, 1), -1);
    }

    // "IndexOutOfBoundsException: there is no such .. BEARER"
    private static void promise11_noSuchBearer() {
        for (int bearer : NOWHERE) {
            Check.dueRefused(INDEX, "bearer " + bearer, x -> x.bearer(bearer, false));
            Check.dueRefused(INDEX, "bearer's family " + bearer, x -> x.bearer(bearer, true));
        }
        Check.dueRefused(INDEX, "bearer 2", x -> x.bearer(2, false));
        Check.due("the last one", Check.everything().bearer(1, false), 4);
    }

    // "Of a BEARER STRONG (family false), or FAMILY."
    private static void promise11_strongAndFamilyAtTheirBounds() {
        BarrelNight x = Check.told("bearer 1 9;bearer 99 0");
        Check.due("least strong", x.bearer(0, false), 1);
        Check.due("greatest family", x.bearer(0, true), 9);
        Check.due("most strong", x.bearer(1, false), 99);
        Check.due("least family", x.bearer(1, true), 0);
    }
}
