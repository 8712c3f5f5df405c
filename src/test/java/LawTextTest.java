/** Promises 5 and 6: the law, its faults, and what it says of a heated yard. */
public final class LawTextTest {
    public static void main(String[] args) {
        faults();
        inPlaceOfTheOneBefore();
        backs();
        byTheLeastBarrel();
        Check.finish();
    }

    private static void faults() {
        Check.dueLawFault("", -1);
        Check.dueLawFault("  ", -1);
        Check.dueLawFault("back 0", -1);
        Check.dueLawFault("back 999 if at", -1);
        Check.dueLawFault("back1if1<2or2>1and at", -1);
        Check.dueLawFault("back 5 if ", 10);
        Check.dueLawFault("back if", 5);
        Check.dueLawFault("back 5 at", 7);
        Check.dueLawFault("back 5 if tar", 10);
        Check.dueLawFault("back 5 if at at", 13);
        Check.dueLawFault("back 5 if at or", 15);
        Check.dueLawFault("back 5 if at and or", 17);
        Check.dueLawFault("back 5 if at and", 16);
        Check.dueLawFault("back 5 if wind < ", 17);
        Check.dueLawFault("back 5 if wind 5", 15);
        Check.dueLawFault("back 5 if wind = 5", 15);
        Check.dueLawFault("back 5 if wind < at", 17);
        Check.dueLawFault("back 5 if wind + < 5", 17);
        Check.dueLawFault("back 5 if wind < 5 < 6", 19);
        Check.dueLawFault("back 5 if wind < 5 + 1000", 21);
        Check.dueLawFault("back 5 if people+holds+inside+yard+weight+wind+second+0<999", -1);
        Check.dueLawFault("back 5 if (people) < 5", 17);
        Check.dueLawFault("back 5 if (at))", 14);
        Check.dueLawFault("back 5 if at)", 12);
        Check.dueLawFault("back 5 if ()", 11);
        Check.dueLawFault("back 5 if not", 13);
        Check.dueLawFault("back 5 if notat", 10);
        Check.dueLawFault("back 5 if ((((((at))))))", -1);
        Check.dueLawFault("back 5 if (((((((at)))))))", 16);
        Check.dueLawFault("back 5 if (not(not(not at)))", -1);
        Check.dueLawFault("back 5 if (not(not(not not at)))", 23);
        Check.dueLawFault("back 5 if (not(not(not(at))))", 22);
        Check.dueLawFault("back 5 if ((((((at)))))) and ((((((at))))))", -1);
        Check.dueLawFault("back 5 if not not not not not not people < 5", -1);
        String twelve = "back 1;back 1;back 1;back 1;back 1;back 1;back 1;back 1;back 1;back 1;back 1;back 1";
        Check.dueLawFault(twelve, -1);
        Check.dueLawFault(twelve + " ; back", 86);
        Check.dueLawFault(twelve + ";", 84);
        Check.dueLawFault(";back 1", 0);
        Check.dueLawFault("wind 1", 0);
    }

    private static void inPlaceOfTheOneBefore() {
        BarrelNight x = Check.told("yard 500 500 wall 0 door 0;yard 500 0 wall 0 door 0;lane 0 1;push 0;"
                + "barrel at 0 pace 60 tar 1 weight 1 way 0");
        Check.due("no law", x.count(5), -1);
        dueBack(x, 10);
        Check.due("law of three", Check.law(x, "back 1;back 20;back 300"), 3);
        Check.due("three lines", x.count(5), 3);
        dueBack(x, 321);
        Check.due("wrong", Check.law(x, "back 5;back"), "IllegalArgumentException");
        Check.due("three lines still", x.count(5), 3);
        dueBack(x, 321);
        x.come(1, 1);
        Check.due("empty", Check.law(x, ""), 0);
        Check.due("no lines", x.count(5), 0);
        Check.due("none remembered", x.count(13), 0);
        dueBack(x, 0);
        Check.due("lines that do not hold", Check.law(x, "back 7 if thatch;back 5"), 2);
        dueBack(x, 5);
    }

    /** How many go back from yard 0 in the next second. */
    private static void dueBack(BarrelNight x, int want) {
        int there = x.yard(0, 1);
        x.seconds(1);
        Check.due("back", there - x.yard(0, 1), want);
        x.undo();
    }

    private static void backs() {
        // yard 2 is heated by the barrel at yard 1: people 200, holds 300, wind 4, weight 6, second 3.
        String[][] cases = {
            {"people < 201", "1"}, {"people < 200", "0"}, {"people > 199", "1"}, {"people > 200", "0"},
            {"holds > 299 and holds < 301", "1"}, {"inside < 1", "1"}, {"inside > 0", "0"},
            {"yard > 1 and yard < 3", "1"}, {"weight > 5 and weight < 7", "1"}, {"wind > 3 and wind < 5", "1"},
            {"second > 2 and second < 4", "1"}, {"thatch", "1"}, {"not thatch", "0"}, {"at", "0"}, {"not at", "1"},
            {"people + 100 < holds", "0"}, {"people + 101 > holds", "1"}, {"people + 99 + 0 < holds", "1"},
            {"1 + 2 + 3 > 2 + 3", "1"}, {"1 + 2 < 1 + 1 + 1", "0"},
            {"thatch or at and at", "1"}, {"(thatch or at) and at", "0"}, {"at and at or thatch", "1"},
            {"not at and thatch", "1"}, {"not (at or thatch)", "0"}, {"not at or thatch and at", "1"},
            {"not not thatch", "1"}, {"not people < 5", "1"}, {"not people < 5 and at", "0"},
            {"at or at or at", "0"}, {"at or at or thatch", "1"}, {"thatch and thatch and at", "0"},
            {"thatch and (at or (thatch and (not at and (1 < 2 or at))))", "1"},
            {"(((((( wind > 3 ))))))", "1"}, {"005 > 4", "1"},
        };
        for (String[] one : cases) {
            BarrelNight x = Check.told("yard 999 0 wall 0 door 0;yard 9 0 wall 0 door 0;"
                    + "yard 300 200 wall 0 door 0 thatch;lane 0 2;lane 1 2;wind 4;push 0",
                    "barrel at 2 pace 9 tar 9 weight 6 way 1 2");
            x.seconds(3);
            x.undo();
            Check.law(x, "back 0");
            x.seconds(3);
            Check.due("law " + one[0], Check.law(x, "back 40 if " + one[0]), 1);
            x.seconds(1);
            Check.due("back if " + one[0], 200 - x.yard(2, 1), one[1].equals("1") ? 40 : 0);
        }
    }

    private static void byTheLeastBarrel() {
        // Yard 1 is heated by both: the least one is not at it, and weighs 3.
        BarrelNight x = Check.told("yard 9 0 wall 0 door 0;yard 99 90 wall 99 door 0;yard 99 0 wall 0 door 0;"
                + "lane 0 1;lane 1 2;push 0;barrel at 0 pace 9 tar 9 weight 3 way 0 1;"
                + "barrel at 0 pace 9 tar 9 weight 8 way 1");
        Check.law(x, "back 1 if at;back 2 if not at;back 10 if weight > 3;back 20 if weight < 4");
        x.seconds(1);
        Check.due("people", x.yard(1, 1), 68);
        Check.due("went to the yard that is not heated", x.yard(2, 1), 22);
    }
}
