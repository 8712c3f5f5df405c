/** Promises 4 and 6 to 11: texts of the town, their faults, and what they tell. */
public final class TownTextTest {
    private static final String YARD = "yard 9 9 wall 9 door 9";
    private static final String TWO = YARD + ";" + YARD;

    public static void main(String[] args) {
        toldThings();
        blanks();
        yardFaults();
        laneFaults();
        barrelFaults();
        otherFaults();
        tooMany();
        nothingStays();
        tenTexts();
        wrongIndexes();
        Check.finish();
    }

    private static void toldThings() {
        BarrelNight x = Check.told("yard 999 998 wall 97 door 96 thatch;yard 0 0 wall 0 door 0;yard 7 7 wall 99 door 99",
                "lane 0 1;lane 1 0;lane 2 1;shut 1;shut 0;open 0;wind 9;push 0",
                "barrel at 999 pace 60 tar 99 weight 20 way 0 1 0 1 2;bearer 99 9;bearer 1 0");
        int[] yard = {999, 998, 97, 96, 0, 1, 0, 0, 2};
        for (int what = 0; what < yard.length; what++) {
            Check.due("yard 0 " + what, x.yard(0, what), yard[what]);
        }
        Check.due("beside 1", x.yard(1, 8), 5);
        Check.due("no thatch", x.yard(1, 5), 0);
        int[][] lanes = {{0, 1, 1}, {1, 0, 0}, {2, 1, 1}};
        for (int lane = 0; lane < 3; lane++) {
            for (int what = 0; what < 3; what++) {
                Check.due("lane " + lane + " " + what, x.lane(lane, what), lanes[lane][what]);
            }
        }
        int[] barrel = {999, 60, 99, 20, 5, -1, 1980 - 27 * 5, 1};
        for (int what = 0; what < barrel.length; what++) {
            Check.due("barrel 0 " + what, x.barrel(0, what), barrel[what]);
        }
        int[] way = {-1, 0, 1, 0, 1, 2, -1};
        for (int k = -1; k <= 5; k++) {
            Check.due("step " + k, x.step(0, k), way[k + 1]);
        }
        Check.due("step far", x.step(0, Integer.MAX_VALUE), -1);
        Check.due("step below", x.step(0, Integer.MIN_VALUE), -1);
        Check.due("strong", x.bearer(0, false), 99);
        Check.due("family", x.bearer(0, true), 9);
        Check.due("strong 1", x.bearer(1, false), 1);
        Check.due("family 1", x.bearer(1, true), 0);
        int[] counts = {3, 3, 1, 2, 3, -1, 0, 1005, 0, 0, 9, 0, 0, 0};
        for (int what = 0; what < counts.length; what++) {
            Check.due("count " + what, x.count(what), counts[what]);
        }
        Check.due("empty text", Check.town(x, ""), 4);
        Check.due("blanks", Check.town(x, "   "), 5);
        Check.due("put off, the wind stays", x.count(10), 9);
    }

    private static void blanks() {
        Check.dueFault("  yard5 5wall1door1thatch  ;yard 005 000 wall 099 door 010;lane 0 1;lane1 0;wind9;push0  ", -1);
        Check.dueFault("yard\t5 5 wall 1 door 1", 4);
        Check.dueFault("yard 5 5 wall 1 door 1\n", 22);
        Check.dueFault("wind 1;  ", 9);
        Check.dueFault("wind  ", 6);
        Check.dueFault(" ;wind 1", 1);
        Check.dueFault("wind 1;;wind 1", 7);
        Check.dueFault("wind 1 wind 1", 7);
        Check.dueFault("windy 1", 0);
        Check.dueFault("Wind 1", 0);
        Check.dueFault("win", 0);
        Check.dueFault("wind 1x", 6);
        Check.dueFault("wind1push1", 5);
        Check.dueFault("wind 0001", 5);
        Check.dueFault("wind 009", -1);
        Check.dueFault("wind -1", 5);
        Check.dueFault("5", 0);
    }

    private static void yardFaults() {
        Check.dueFault(YARD + " thatched", 23);
        Check.dueFault(YARD + " thatch thatch", 30);
        Check.dueFault(YARD + " 5", 23);
        Check.dueFault("yard 1000 5 wall 1 door 1", 5);
        Check.dueFault("yard 5 6 wall 1 door 1", 7);
        Check.dueFault("yard 5 wall 1 door 1", 7);
        Check.dueFault("yard 5 5 wal 1 door 1", 9);
        Check.dueFault("yard 5 5 wall 1 dor 1", 16);
        Check.dueFault("yard 5 5 wall 1 door", 20);
        Check.dueFault("yard 5 5 wall door 1", 14);
        Check.dueFault("yard 999 999 wall 99 door 99", -1);
        Check.dueFault("yard 0 0 wall 0 door 0", -1);
    }

    private static void laneFaults() {
        Check.dueFault("lane 0 1", -1, TWO);
        Check.dueFault("lane 1 0;lane 0 1;lane 0 1", -1, TWO);
        Check.dueFault("lane 0 2", 7, TWO);
        Check.dueFault("lane 2 0", 5, TWO);
        Check.dueFault("lane 1 1", 7, TWO);
        Check.dueFault("lane 2 2", 5, TWO);
        Check.dueFault("lane 0", 6, TWO);
        Check.dueFault("lane 0 1 0", 9, TWO);
        Check.dueFault("lane 0 1;" + YARD + ";lane 1 2;lane 2 3", 48, TWO);
        Check.dueFault("lane 0 1;shut 0;open 0;shut 1", 28, TWO);
        Check.dueFault("shut 0;lane 0 1", 5, TWO);
        Check.dueFault("open 1", 5, TWO, "lane 0 1");
        Check.dueFault("open 0;shut 0", -1, TWO, "lane 0 1");
    }

    private static void barrelFaults() {
        String start = "barrel at 0 pace 1 tar 1 weight 1 way ";
        String three = TWO + ";" + YARD + ";lane 0 1;lane 1 2;shut 1";
        Check.dueFault(start + "0 1 2 1", -1, three);
        Check.dueFault(start + "2", -1, three);
        Check.dueFault(start + "0 2", 40, three);
        Check.dueFault(start + "0 0", 40, three);
        Check.dueFault(start + "3", 38, three);
        Check.dueFault(start + "0 1 3", 42, three);
        Check.dueFault(start + "0 1 1000", 42, three);
        Check.dueFault(start + "0 1 33", 42, three);
        Check.dueFault(start + "0 1 2 x", 44, three);
        Check.dueFault(start, 38, three);
        Check.dueFault(start + "0 1 0 1 0 1 0 1 0 1 0 1 0 1 0 1", -1, three);
        Check.dueFault(start + "0 1 0 1 0 1 0 1 0 1 0 1 0 1 0 1 0", 70, three);
        Check.dueFault(start + "0 1 0 1 0 1 0 1 0 1 0 1 0 1 0 1 7", 70, three);
        Check.dueFault("barrel 0", 7, three);
        Check.dueFault("barrel at 1000", 10, three);
        Check.dueFault("barrel at 0 pace 0", 17, three);
        Check.dueFault("barrel at 0 pace 61", 17, three);
        Check.dueFault("barrel at 0 pace 60 tar 0", 24, three);
        Check.dueFault("barrel at 0 pace 60 tar 100", 24, three);
        Check.dueFault("barrel at 0 pace 60 tar 99 weight 0", 34, three);
        Check.dueFault("barrel at 0 pace 60 tar 99 weight 21", 34, three);
        Check.dueFault("barrel at 999 pace 60 tar 99 weight 20 wa", 39, three);
        Check.dueFault("barrel at 999 pace 60 tar 99 weight 20 way 0", -1, three);
    }

    private static void otherFaults() {
        Check.dueFault("bearer 0 1", 7);
        Check.dueFault("bearer 100 1", 7);
        Check.dueFault("bearer 99 9", -1);
        Check.dueFault("bearer 1 10", 9);
        Check.dueFault("bearer 1", 8);
        Check.dueFault("wind 10", 5);
        Check.dueFault("wind 0", -1);
        Check.dueFault("push 9", -1);
        Check.dueFault("push 10", 5);
        Check.dueFault("back 5", 0);
    }

    private static void tooMany() {
        String four = TWO + ";" + TWO;
        String eight = four + ";" + four;
        Check.dueFault(YARD, -1, eight, TWO, four, YARD);
        Check.dueFault("wind 1; yard x", 8, eight, eight);
        String lanes = "lane 0 1;lane 0 1;lane 0 1;lane 0 1;lane 0 1;lane 0 1;lane 0 1;lane 0 1;lane 0 1;lane 0 1;lane 0 1;lane 0 1";
        Check.dueFault(lanes, -1, TWO, lanes);
        Check.dueFault(" lane", 1, TWO, lanes, lanes);
        String barrel = "barrel at 0 pace 1 tar 1 weight 1 way 0";
        String three = barrel + ";" + barrel + ";" + barrel;
        Check.dueFault(three, -1, TWO, three);
        Check.dueFault(barrel, 0, TWO, three, three);
        String bearers = "bearer 1 1;bearer 1 1;bearer 1 1";
        Check.dueFault(bearers, -1, bearers, bearers);
        Check.dueFault("push 1;bearer 1 1", 7, bearers, bearers, bearers);
        String winds = "wind 1;wind 1;wind 1;wind 1;wind 1;wind 1;wind 1;wind 1;wind 1;wind 1;wind 1;wind 1;wind 1;wind 1";
        Check.dueFault(winds, -1);
        Check.dueFault(winds + " ;  wind 1", 101);
        Check.dueFault(winds + " ;  ", 101);
        Check.dueFault(winds + " ;  ?", 101);
        Check.dueFault(winds + " 5", 98);
    }

    private static void nothingStays() {
        BarrelNight x = Check.told(TWO, "wind 3;lane 0 1");
        x.come(0, 1);
        x.put(0, false);
        Check.due("wrong", Check.town(x, "wind 5;push 7;open 0;" + YARD + ";lane 0 2;bearer 1 1;"
                + "barrel at 0 pace 1 tar 1 weight 1 way 0;tar"), "IllegalArgumentException");
        int[] want = {2, 1, 0, 0, 2, -1, 0, 18, 0, 0, 3, 1, 0, 2};
        for (int what = 0; what < want.length; what++) {
            Check.due("count " + what, x.count(what), want[what]);
        }
        Check.due("lane is shut still", x.lane(0, 2), 0);
        Check.due("right again", Check.town(x, YARD), 3);
        Check.due("fault", x.fault(), -1);
        Check.due("none remembered", x.count(13), 0);
        Check.due("no thatch is left", x.yard(2, 5), 0);
    }

    private static void tenTexts() {
        BarrelNight x = new BarrelNight();
        for (int i = 1; i <= 10; i++) {
            Check.due("text " + i, Check.town(x, "wind 1"), i);
        }
        Check.due("wrong text is told first", Check.town(x, "wind x"), "IllegalArgumentException");
        Check.due("its fault", x.fault(), 5);
        Check.due("right text", Check.town(x, "wind 2"), "UnsupportedOperationException");
        Check.due("it was read", x.fault(), -1);
        Check.due("nothing stays", x.count(10), 1);
        Check.due("ten", x.count(4), 10);
        Check.due("used up", x.end(1), false);
        Check.due("empty text", Check.town(x, ""), "UnsupportedOperationException");
    }

    private static void wrongIndexes() {
        BarrelNight x = Check.told(TWO + ";lane 0 1;barrel at 0 pace 1 tar 1 weight 1 way 0;bearer 1 1");
        Class<IndexOutOfBoundsException> none = IndexOutOfBoundsException.class;
        Class<java.util.NoSuchElementException> noWhat = java.util.NoSuchElementException.class;
        Check.dueThrow("yard -1", () -> x.yard(-1, 0), none);
        Check.dueThrow("yard 2", () -> x.yard(2, 99), none);
        Check.dueThrow("yard 0 9", () -> x.yard(0, 9), noWhat);
        Check.dueThrow("yard 0 -1", () -> x.yard(0, -1), noWhat);
        Check.dueThrow("lane -1", () -> x.lane(-1, 0), none);
        Check.dueThrow("lane 1", () -> x.lane(1, 99), none);
        Check.dueThrow("lane 0 3", () -> x.lane(0, 3), noWhat);
        Check.dueThrow("lane 0 -1", () -> x.lane(0, -1), noWhat);
        Check.dueThrow("barrel -1", () -> x.barrel(-1, 0), none);
        Check.dueThrow("barrel 1", () -> x.barrel(1, 99), none);
        Check.dueThrow("barrel 0 8", () -> x.barrel(0, 8), noWhat);
        Check.dueThrow("barrel 0 -1", () -> x.barrel(0, -1), noWhat);
        Check.dueThrow("step 1", () -> x.step(1, 0), none);
        Check.dueThrow("step -1", () -> x.step(-1, 0), none);
        Check.dueThrow("bearer 1", () -> x.bearer(1, true), none);
        Check.dueThrow("bearer -1", () -> x.bearer(-1, false), none);
    }
}
