/** Promises 22 and 23: bearers along a way, and who has the last yards. */
public final class BearersTest {
    private static final String YARDS = "yard 9 0 wall 0 door 0;yard 9 0 wall 0 door 0;lane 0 1";

    public static void main(String[] args) {
        wrongNumbers();
        changes();
        last();
        Check.finish();
    }

    /** A barrel of weight 10 on a way of so many yards, and bearers by STRONG and FAMILY. */
    private static BarrelNight told(int yards, int... bearers) {
        StringBuilder way = new StringBuilder("barrel at 0 pace 1 tar 1 weight 10 way 0");
        for (int i = 1; i < yards; i++) {
            way.append(' ').append(i % 2);
        }
        StringBuilder text = new StringBuilder("wind 0");
        for (int i = 0; i < bearers.length; i += 2) {
            text.append(";bearer ").append(bearers[i]).append(' ').append(bearers[i + 1]);
        }
        return Check.told(YARDS, way.toString(), text.toString());
    }

    private static void wrongNumbers() {
        BarrelNight x = told(2, 99, 1);
        Class<IndexOutOfBoundsException> none = IndexOutOfBoundsException.class;
        Class<IllegalArgumentException> wrong = IllegalArgumentException.class;
        Check.dueThrow("changes 1", () -> x.changes(1, -2), none);
        Check.dueThrow("changes -1", () -> x.changes(-1, 0), none);
        Check.dueThrow("changes k -2", () -> x.changes(0, -2), wrong);
        Check.dueThrow("last 1", () -> x.last(1, -1), none);
        Check.dueThrow("last -1", () -> x.last(-1, 0), none);
        Check.dueThrow("last year -1", () -> x.last(0, -1), wrong);
        Check.dueThrow("last year 1000", () -> x.last(0, 1000), wrong);
        Check.due("last year 999", x.last(0, 999), 0);
    }

    private static void dueChanges(BarrelNight x, int... row) {
        Check.due("how many", x.changes(0, -1), row.length == 0 ? -1 : row.length);
        for (int k = 0; k < 11; k++) {
            Check.due("bearer " + k, x.changes(0, k), k < row.length ? row[k] : -1);
        }
        Check.due("bearer behind all", x.changes(0, Integer.MAX_VALUE), -1);
    }

    private static void changes() {
        dueChanges(told(2));
        dueChanges(told(1, 9, 0));
        dueChanges(told(1, 10, 0), 0);
        dueChanges(told(2, 19, 0));
        dueChanges(told(2, 19, 0, 10, 0));
        dueChanges(told(2, 19, 0, 10, 1), 0, 1);
        // The fewest come ahead of the least numbers.
        dueChanges(told(4, 10, 0, 10, 1, 40, 2), 2);
        dueChanges(told(5, 10, 0, 10, 1, 40, 2), 0, 2);
        // No two of one family behind one another: one of another family must come between.
        dueChanges(told(4, 20, 1, 20, 1, 10, 2), 0, 2, 1);
        dueChanges(told(5, 20, 1, 20, 1, 10, 2), 0, 2, 1);
        dueChanges(told(6, 20, 1, 20, 1, 10, 2));
        dueChanges(told(6, 20, 1, 20, 1, 10, 2, 20, 3), 0, 3, 1);
        // One who cannot carry a yard does not come between.
        dueChanges(told(4, 20, 1, 20, 1, 9, 2));
        // Nine bearers, of whom five are of one family.
        dueChanges(told(9, 10, 1, 10, 1, 10, 1, 10, 1, 10, 1, 10, 2, 10, 2, 10, 3, 10, 4), 0, 5, 1, 6, 2, 7, 3, 8, 4);
        dueChanges(told(9, 10, 1, 10, 1, 10, 1, 10, 1, 10, 1, 10, 1, 10, 2, 10, 3, 10, 4));
        dueChanges(told(16, 90, 1, 90, 1, 20, 0, 70, 0), 0, 3);
    }

    private static void last() {
        Check.due("nobody", told(1).last(0, 0), -1);
        Check.due("nobody who can", told(1, 9, 0).last(0, 5), -1);
        // Family 0: 3; family 2: 1, 4, 5; family 9: 0. 2 cannot carry one yard.
        BarrelNight x = told(1, 10, 9, 99, 2, 9, 0, 20, 0, 10, 2, 11, 2);
        int[] want = {3, 1, 0, 3, 4, 0, 3, 5, 0, 3, 1, 0};
        for (int year = 0; year < want.length; year++) {
            Check.due("year " + year, x.last(0, year), want[year]);
        }
        Check.due("year 999", x.last(0, 999), 3);
    }
}
