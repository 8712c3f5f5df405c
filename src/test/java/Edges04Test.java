import java.util.List;

/** The edges of promise 4: the texts of THE TOWN. Above each test stands the sentence that it is of. */
public final class Edges04Test {
    private static final String YARD = "yard 9 9 wall 9 door 9";
    private static final String TWO = YARD + ";" + YARD;
    private static final String LANED = TWO + ";lane 0 1";
    private static final String WAY = "barrel at 0 pace 1 tar 1 weight 1 way ";
    private static final String BEARER = "bearer 1 1";
    private static final String WRONG = "IllegalArgumentException";

    public static void main(String[] args) throws Exception {
        Check.runAll(Edges04Test.class);
    }

    // "YARDS (at most 16, numbered from 0 on)"
    private static void promise04_sixteenYards() {
        BarrelNight x = Check.told(Check.times(14, YARD), TWO);
        Check.due("yards", x.count(0), 16);
        Check.due("the last one", x.yard(15, 0), 9);
    }

    // "of a YARD, LANE, BARREL, BEARER too many, the first word": the 17th YARD, whatever is behind that word.
    private static void promise04_aYardTooMany() {
        Check.dueFault(YARD, 0, Check.times(14, YARD), TWO);
        Check.dueFault(" yard x", 1, Check.times(14, YARD), TWO);
        Check.dueFault(TWO + "; " + YARD, 47, Check.times(14, YARD));
    }

    // "HOLDS 0 to 999"
    private static void promise04_holds() {
        Check.due("0", Check.told("yard 0 0 wall 9 door 9").yard(0, 0), 0);
        Check.due("999", Check.told("yard 999 9 wall 9 door 9").yard(0, 0), 999);
        Check.dueFault("yard 1000 9 wall 9 door 9", 5);
    }

    // "PEOPLE (HOLDS at most)", "PEOPLE: HOLDS at most"
    private static void promise04_people() {
        Check.due("0", Check.told("yard 9 0 wall 9 door 9").yard(0, 1), 0);
        Check.due("as many as it holds", Check.told("yard 9 9 wall 9 door 9").yard(0, 1), 9);
        Check.due("999", Check.told("yard 999 999 wall 9 door 9").yard(0, 1), 999);
        Check.dueFault("yard 9 10 wall 9 door 9", 7);
        Check.dueFault("yard 0 1 wall 9 door 9", 7);
    }

    // "WALL 0 to 99"
    private static void promise04_wall() {
        Check.due("0", Check.told("yard 9 9 wall 0 door 9").yard(0, 2), 0);
        Check.due("99", Check.told("yard 9 9 wall 99 door 9").yard(0, 2), 99);
        Check.dueFault("yard 9 9 wall 100 door 9", 14);
    }

    // "DOOR 0 to 99 (so many can fall into doors; INSIDE: those who are there, 0 at first)"
    private static void promise04_door() {
        Check.due("0", Check.told("yard 9 9 wall 9 door 0").yard(0, 3), 0);
        Check.due("99", Check.told("yard 9 9 wall 9 door 99").yard(0, 3), 99);
        Check.due("none is inside", Check.told("yard 9 9 wall 9 door 99").yard(0, 4), 0);
        Check.dueFault("yard 9 9 wall 9 door 100", 21);
    }

    // "thatch or not"
    private static void promise04_thatchOnceOrNot() {
        BarrelNight x = Check.told(YARD + " thatch;" + YARD);
        Check.due("thatch", x.yard(0, 5), 1);
        Check.due("no thatch", x.yard(1, 5), 0);
        Check.dueFault(YARD + " thatch thatch", 30);
    }

    // "LANES (at most 24, numbered from 0 on)"
    private static void promise04_twentyFourLanes() {
        BarrelNight x = Check.told(TWO, Check.times(12, "lane 0 1"), Check.times(12, "lane 1 0"));
        Check.due("lanes", x.count(1), 24);
        Check.due("the last one", x.lane(23, 0), 1);
        Check.due("it is open", x.lane(23, 2), 1);
        Check.due("it is shut", x.put(23, false), true);
        Check.due("it alone", x.lane(22, 2), 1);
    }

    // "of a YARD, LANE, BARREL, BEARER too many, the first word": the 25th LANE.
    private static void promise04_aLaneTooMany() {
        String twelve = Check.times(12, "lane 0 1");
        Check.dueFault("lane 0 1", 0, TWO, twelve, twelve);
        Check.dueFault("wind 1;  lane", 9, TWO, twelve, twelve);
        Check.dueFault("lane 0 1;lane 0 1", 9, TWO, twelve, Check.times(11, "lane 0 1"));
    }

    // "open at first, or shut"
    private static void promise04_aLaneIsOpenAtFirst() {
        Check.due("open", Check.told(LANED).lane(0, 2), 1);
        BarrelNight x = Check.told(LANED + ";shut 0;lane 0 1");
        Check.due("shut", x.lane(0, 2), 0);
        Check.due("the new one is open", x.lane(1, 2), 1);
    }

    // "Y: a YARD .. that there is by then": the last one is, the one behind it not, and none told later.
    private static void promise04_theYardsOfALane() {
        Check.dueFault("lane 0 1", -1, TWO);
        Check.dueFault("lane 1 0", -1, TWO);
        Check.dueFault("lane 0 2", 7, TWO);
        Check.dueFault("lane 2 0", 5, TWO);
        Check.dueFault("lane 0 1;" + TWO, 5);
        Check.dueFault(YARD + ";lane 0 1;" + YARD, 30);
    }

    // "(the two of a lane not the same: else the latter is wrong"
    private static void promise04_aLaneToItself() {
        Check.dueFault("lane 0 0", 7, TWO);
        Check.dueFault("lane 1 1", 7, TWO);
        Check.dueFault("lane 1 001", 7, TWO);
        // None that there is: then the former is wrong.
        Check.dueFault("lane 2 2", 5, TWO);
    }

    // "one that there is already is one more)"
    private static void promise04_aLaneOnceMore() {
        BarrelNight x = Check.told(LANED + ";lane 0 1;lane 1 0");
        Check.due("lanes", x.count(1), 3);
        Check.due("beside it is one yard", x.yard(0, 8), 2);
    }

    // "BARRELS (at most 6, numbered from 0 on)"
    private static void promise04_sixBarrels() {
        BarrelNight x = Check.told(YARD, Check.times(6, WAY + "0"));
        Check.due("barrels", x.count(2), 6);
        Check.due("the last one", x.barrel(5, 4), 1);
    }

    // "of a YARD, LANE, BARREL, BEARER too many, the first word": the 7th BARREL.
    private static void promise04_aBarrelTooMany() {
        Check.dueFault(WAY + "0", 0, YARD, Check.times(6, WAY + "0"));
        Check.dueFault("  barrel", 2, YARD, Check.times(6, WAY + "0"));
        Check.dueFault(Check.times(7, WAY + "0"), 240, YARD);
    }

    // "a WAY: 1 to 16 YARDS": one.
    private static void promise04_aWayOfOneYard() {
        BarrelNight x = Check.told(TWO + ";" + WAY + "1");
        Check.due("yards", x.barrel(0, 4), 1);
        Check.due("it", x.step(0, 0), 1);
        Check.dueFault(WAY, 38, TWO);
        Check.dueFault(WAY + ";wind 1", 38, TWO);
    }

    // "a WAY: 1 to 16 YARDS": sixteen; "of a YARD of a WAY too many that number".
    private static void promise04_aWayOfSixteenYards() {
        String sixteen = WAY + "0 1 0 1 0 1 0 1 0 1 0 1 0 1 0 1";
        BarrelNight x = Check.told(LANED, sixteen);
        Check.due("yards", x.barrel(0, 4), 16);
        Check.due("the last one", x.step(0, 15), 1);
        Check.dueFault(sixteen + " 0", 70, LANED);
        Check.dueFault(sixteen + "  9999", 71, LANED);
        Check.dueFault(sixteen + " 1;" + sixteen, 70, LANED);
    }

    // "each but the first by a LANE (open or shut then) from the one before"
    private static void promise04_aWayByAShutLane() {
        Check.dueFault(WAY + "0 1 0", -1, LANED + ";shut 0");
    }

    // "Y of way: one to which no LANE leads from the one before is wrong"
    private static void promise04_aWayWithoutALane() {
        Check.dueFault(WAY + "0 1", 40, TWO);
        Check.dueFault(WAY + "0 0", 40, LANED);
        Check.dueFault(WAY + "0 1 1", 42, LANED);
        Check.dueFault(WAY + "0 1 2", 42, LANED + ";" + YARD + ";lane 2 0");
        Check.dueFault(WAY + "0 2 1", 42, LANED + ";" + YARD + ";lane 2 0");
    }

    // "Y: a YARD .. that there is by then": of a WAY.
    private static void promise04_aWayToNoYard() {
        Check.dueFault(WAY + "0", 38);
        Check.dueFault(WAY + "2", 38, LANED);
        Check.dueFault(WAY + "0 2", 40, LANED);
        Check.dueFault(WAY + "0 1;lane 0 1", 40, TWO);
    }

    // "START 0 to 999"
    private static void promise04_start() {
        Check.due("0", Check.told(YARD + ";barrel at 0 pace 1 tar 1 weight 1 way 0").barrel(0, 0), 0);
        Check.due("999", Check.told(YARD + ";barrel at 999 pace 1 tar 1 weight 1 way 0").barrel(0, 0), 999);
        Check.dueFault("barrel at 1000 pace 1 tar 1 weight 1 way 0", 10, YARD);
    }

    // "PACE 1 to 60 seconds a YARD"
    private static void promise04_pace() {
        Check.due("1", Check.told(YARD + ";barrel at 0 pace 1 tar 1 weight 1 way 0").barrel(0, 1), 1);
        Check.due("60", Check.told(YARD + ";barrel at 0 pace 60 tar 1 weight 1 way 0").barrel(0, 1), 60);
        Check.dueFault("barrel at 0 pace 0 tar 1 weight 1 way 0", 17, YARD);
        Check.dueFault("barrel at 0 pace 61 tar 1 weight 1 way 0", 17, YARD);
    }

    // "TAR 1 to 99"
    private static void promise04_tar() {
        Check.due("1", Check.told(YARD + ";barrel at 0 pace 1 tar 1 weight 1 way 0").barrel(0, 2), 1);
        Check.due("99", Check.told(YARD + ";barrel at 0 pace 1 tar 99 weight 1 way 0").barrel(0, 2), 99);
        Check.dueFault("barrel at 0 pace 1 tar 0 weight 1 way 0", 23, YARD);
        Check.dueFault("barrel at 0 pace 1 tar 100 weight 1 way 0", 23, YARD);
    }

    // "WEIGHT 1 to 20"
    private static void promise04_weight() {
        Check.due("1", Check.told(YARD + ";barrel at 0 pace 1 tar 1 weight 1 way 0").barrel(0, 3), 1);
        Check.due("20", Check.told(YARD + ";barrel at 0 pace 1 tar 1 weight 20 way 0").barrel(0, 3), 20);
        Check.dueFault("barrel at 0 pace 1 tar 1 weight 0 way 0", 32, YARD);
        Check.dueFault("barrel at 0 pace 1 tar 1 weight 21 way 0", 32, YARD);
    }

    // "BEARERS (at most 9, numbered from 0 on)"
    private static void promise04_nineBearers() {
        BarrelNight x = Check.told(Check.times(8, BEARER) + ";bearer 7 8");
        Check.due("bearers", x.count(3), 9);
        Check.due("the last one", x.bearer(8, true), 8);
    }

    // "of a YARD, LANE, BARREL, BEARER too many, the first word": the 10th BEARER.
    private static void promise04_aBearerTooMany() {
        Check.dueFault(BEARER, 0, Check.times(9, BEARER));
        Check.dueFault(" bearer 0", 1, Check.times(9, BEARER));
        Check.dueFault(Check.times(10, BEARER), 99);
    }

    // "STRONG 1 to 99"
    private static void promise04_strong() {
        Check.due("1", Check.told("bearer 1 0").bearer(0, false), 1);
        Check.due("99", Check.told("bearer 99 0").bearer(0, false), 99);
        Check.dueFault("bearer 0 0", 7);
        Check.dueFault("bearer 100 0", 7);
    }

    // "FAMILY 0 to 9"
    private static void promise04_family() {
        Check.due("0", Check.told("bearer 1 0").bearer(0, true), 0);
        Check.due("9", Check.told("bearer 1 9").bearer(0, true), 9);
        Check.dueFault("bearer 1 10", 9);
    }

    // "WIND 0 to 9 (0 at first)"
    private static void promise04_wind() {
        Check.due("9", Check.told("wind 9").count(10), 9);
        Check.due("0", Check.told("wind 9;wind 0").count(10), 0);
        Check.dueFault("wind 10", 5);
    }

    // "PUSH 0 to 9 (1 at first)"
    private static void promise04_push() {
        Check.due("9", Check.told("push 9").count(11), 9);
        Check.due("0", Check.told("push 0").count(11), 0);
        Check.dueFault("push 10", 5);
    }

    // "L: a LANE that there is by then": of shut.
    private static void promise04_shut() {
        BarrelNight x = Check.told(LANED + ";lane 0 1;shut 1");
        Check.due("the last one", x.lane(1, 2), 0);
        Check.due("it alone", x.lane(0, 2), 1);
        Check.dueFault("shut 1", 5, LANED);
        Check.dueFault("shut 0", 5, TWO);
        Check.dueFault("shut 1;lane 0 1", 5, LANED);
        Check.dueFault("shut 0;shut 0", -1, LANED);
    }

    // "L: a LANE that there is by then": of open.
    private static void promise04_open() {
        BarrelNight x = Check.told(LANED + ";lane 0 1;shut 0;shut 1;open 1");
        Check.due("the last one", x.lane(1, 2), 1);
        Check.due("it alone", x.lane(0, 2), 0);
        Check.dueFault("open 1", 5, LANED);
        Check.dueFault("open 0", 5, TWO);
        Check.dueFault("open 1;lane 0 1", 5, LANED);
        Check.dueFault("open 0;open 0", -1, LANED);
    }

    // "LINE { ; LINE }, at most 14"
    private static void promise04_fourteenLines() {
        Check.dueFault(Check.times(14, "wind 1"), -1);
        Check.dueFault(Check.times(14, "wind 1") + "  ", -1);
    }

    // "of a LINE too many .. the first word"; "or the text's length, if more must come"
    private static void promise04_aLineTooMany() {
        String all = Check.times(14, "wind 1");
        Check.dueFault(all + ";wind 1", 98);
        Check.dueFault(all + " ; wind 1;wind 1", 100);
        Check.dueFault(all + ";", 98);
        Check.dueFault(all + "; ", 99);
    }

    // "THE TOWN is told in texts (at most 10, one behind another)"; "UnsupportedOperationException: there are 10"
    private static void promise04_tenTexts() {
        BarrelNight x = ten();
        Check.due("texts", x.count(4), 10);
        Check.due("an 11th", Check.town(x, "wind 2"), "UnsupportedOperationException");
        Check.due("an empty 11th", Check.town(x, ""), "UnsupportedOperationException");
    }

    // "a call that throws changes nothing but the TAPE, where it is used up": an 11th text.
    private static void promise04_an11thTextChangesNothing() {
        BarrelNight x = ten();
        x.put(0, false);
        x.seconds(1);
        List<Integer> before = Check.seen(x);
        Check.due("an 11th", Check.town(x, "wind 2;open 0;" + YARD), "UnsupportedOperationException");
        Check.due("all that is seen", Check.seen(x), before);
        Check.due("the tape is used up", x.end(1), false);
        Check.due("undo", x.undo(), true);
        Check.due("second", x.count(6), 0);
    }

    // "Of several exceptions the one told first is thrown": a wrong 11th text.
    private static void promise04_aWrong11thText() {
        BarrelNight x = ten();
        Check.due("wrong", Check.town(x, "wind 10"), WRONG);
        Check.due("fault", x.fault(), 5);
    }

    // "UnsupportedOperationException: there are 10": there are not, if one has gone back.
    private static void promise04_roomForTextsAgain() {
        BarrelNight x = Check.told("wind 1", "wind 2");
        x.image();
        for (int i = 3; i <= 10; i++) {
            Check.due("text", Check.town(x, "wind 3"), i);
        }
        x.back();
        Check.due("a third one", Check.town(x, "wind 4"), 3);
    }

    // "A text that is empty, or blanks alone, has no LINE."
    private static void promise04_anEmptyText() {
        BarrelNight x = Check.told(YARD);
        List<Integer> before = Check.seen(x);
        Check.due("empty", Check.town(x, ""), 2);
        Check.due("blanks", Check.town(x, "   "), 3);
        Check.due("a full tape of blanks", Check.town(x, " ".repeat(400)), 4);
        before.set(5 + 4, 4);
        Check.due("it is a text and nothing else", Check.seen(x), before);
    }

    // "All numbers are of 1 to 3 digits."; "a number of more digits"
    private static void promise04_digits() {
        Check.dueFault("wind 9", -1);
        Check.dueFault("wind 09", -1);
        Check.dueFault("wind 009", -1);
        Check.dueFault("wind 0009", 5);
        Check.dueFault("wind " + "0".repeat(300), 5);
        Check.dueFault("wind 4294967296", 5);
        Check.dueFault("wind -1", 5);
        Check.dueFault("wind +1", 5);
    }

    // "Words are as long as a to z go on": a word that is none.
    private static void promise04_words() {
        Check.dueFault("win 1", 0);
        Check.dueFault("windy 1", 0);
        Check.dueFault("windz 1", 0);
        Check.dueFault("winda 1", 0);
        Check.dueFault("Wind 1", 0);
        Check.dueFault("wInd 1", 0);
        Check.dueFault("wi nd 1", 0);
        Check.dueFault("wind`1", 4);
        Check.dueFault("wind{1", 4);
        Check.dueFault("yards 9 9 wall 9 door 9", 0);
        Check.dueFault("back 5", 0);
    }

    // "between all there may be blanks (32), also ahead and behind": and none need be where none is needed.
    private static void promise04_blanks() {
        Check.dueFault("   yard   9   9   wall   9   door   9   thatch   ;   wind   1   ", -1);
        Check.dueFault("yard9 9wall9door9thatch;wind1", -1);
        Check.dueFault("yard99wall9door9", 6);
    }

    // "blanks (32)": no other byte is one.
    private static void promise04_noOtherByteIsABlank() {
        for (char c : new char[] {0, 9, 10, 13, 31, 33, 95, 127, 160, 255}) {
            Check.dueFault("wind" + c + "1", 4);
            Check.dueFault(c + "wind 1", 0);
            Check.dueFault("wind 1" + c, 6);
        }
    }

    private static final String[] LINES = {"yard 9 9 wall 9 door 9", "lane 0 1",
        "barrel at 0 pace 1 tar 1 weight 1 way 0", "bearer 1 1", "wind 1", "push 1", "shut 0", "open 0"};

    // "or the text's length, if more must come": behind each thing of each LINE but the last.
    private static void promise04_moreMustCome() {
        for (String line : LINES) {
            for (int at = line.lastIndexOf(' '); at > 0; at = line.lastIndexOf(' ', at - 1)) {
                String begun = line.substring(0, at);
                Check.dueFault(begun, at, LANED);
                Check.dueFault(begun + "  ", at + 2, LANED);
                Check.dueFault(begun + ";" + line, at, LANED);
            }
            Check.dueFault(line, -1, LANED);
            Check.dueFault(line + ";", line.length() + 1, LANED);
        }
    }

    // "the begin of the first thing that cannot stand there": in the place of each thing of each LINE.
    private static void promise04_whatCannotStandThere() {
        for (String line : LINES) {
            String[] things = line.split(" ");
            for (int i = 0, at = 0; i < things.length; at += things[i].length() + 1, i++) {
                String other = things[i].matches("[0-9]+") ? "wall" : "7";
                Check.dueFault(line.substring(0, at) + "? x", at, LANED);
                Check.dueFault(line.substring(0, at) + other + line.substring(at + things[i].length()), at, LANED);
            }
            Check.dueFault(line + " wind 1", line.length() + 1, LANED);
            Check.dueFault(line + " ?", line.length() + 1, LANED);
        }
        Check.dueFault(";wind 1", 0);
        Check.dueFault("wind 1;;wind 1", 7);
    }

    // "The first wrong byte": of two the first.
    private static void promise04_theFirstOfTwoWrongThings() {
        Check.dueFault("wind 10;push 10", 5);
        Check.dueFault("yard 9 10 wall 100 door 100", 7);
        Check.dueFault(WAY + "0 5 6", 40, LANED);
    }

    // "Of a wrong text nothing stays."
    private static void promise04_ofAWrongTextNothingStays() {
        String[] begun = {YARD, YARD + " thatch", "lane 0 1", WAY + "0 1", BEARER, "wind 7", "push 7", "shut 0", "open 1"};
        for (String line : begun) {
            BarrelNight x = Check.told(LANED + ";lane 0 1;shut 1");
            x.come(0, 1);
            List<Integer> before = Check.seen(x);
            Check.due("wrong behind " + line, Check.town(x, line + ";?"), WRONG);
            before.set(0, line.length() + 1);
            Check.due("all that is seen behind " + line, Check.seen(x), before);
        }
    }

    // "Of a wrong text nothing stays": nor of the LINE that is wrong itself.
    private static void promise04_ofAWrongLineNothingStays() {
        BarrelNight x = Check.told(TWO);
        Check.due("a yard with thatch", Check.town(x, YARD + " thatch 1"), WRONG);
        Check.due("yards", x.count(0), 2);
        Check.due("the next yard", Check.town(x, YARD), 2);
        Check.due("has no thatch", x.yard(2, 5), 0);
        Check.due("a shut lane", Check.town(x, "lane 0 1;shut 0;shut 1"), WRONG);
        Check.due("the next lane", Check.town(x, "lane 0 1"), 3);
        Check.due("is open", x.lane(0, 2), 1);
        Check.due("a long way", Check.town(x, WAY + "0 1 0 1 1"), WRONG);
        Check.due("the next way", Check.town(x, WAY + "1 0"), 4);
        Check.due("is short", x.barrel(0, 4), 2);
        Check.due("a second later step", x.step(0, 2), -1);
    }

    // "Uses the TAPE up": by a right text and by a wrong one.
    private static void promise04_theTapeIsUsedUp() {
        BarrelNight x = new BarrelNight();
        Check.due("right", Check.town(x, "wind 1"), 1);
        Check.due("nothing is left", x.end(1), false);
        Check.due("wrong", Check.town(x, "wind 1;x;wind 2;wind 3"), WRONG);
        Check.due("nothing is left", x.end(1), false);
        Check.due("what follows is empty", Check.of(x::town), 2);
    }

    // "A text, going back: none are remembered."
    private static void promise04_behindATextNoneAreRemembered() {
        BarrelNight x = Check.told(LANED);
        x.put(0, false);
        x.seconds(1);
        Check.due("empty text", Check.town(x, ""), 2);
        Check.due("remembered", x.count(13), 0);
        Check.due("undo", x.undo(), false);
        Check.due("what was done stays", x.count(6), 1);
    }

    // "a call that throws changes nothing but the TAPE": what is remembered behind a wrong text.
    private static void promise04_behindAWrongTextAllAreRemembered() {
        BarrelNight x = Check.told(LANED);
        x.put(0, false);
        x.seconds(1);
        Check.due("wrong text", Check.town(x, "?"), WRONG);
        Check.due("remembered", x.count(13), 2);
        Check.due("undo", x.undo(), true);
        Check.due("undo", x.undo(), true);
        Check.due("the lane is open", x.lane(0, 2), 1);
    }

    // "texts .. one behind another": what was told and what has happened stays.
    private static void promise04_aTextComesBehindTheOthers() {
        BarrelNight x = Check.told(LANED + ";wind 3");
        x.put(0, false);
        x.seconds(5);
        Check.due("a text", Check.town(x, YARD + ";lane 1 2;push 4"), 2);
        Check.due("yards", x.count(0), 3);
        Check.due("lanes", x.count(1), 2);
        Check.due("wind", x.count(10), 3);
        Check.due("push", x.count(11), 4);
        Check.due("second", x.count(6), 5);
        Check.due("the lane is shut", x.lane(0, 2), 0);
        Check.due("the other is open", x.lane(1, 2), 1);
    }

    // "NONE, and none come, if it would have more than 400": a text may have as many.
    private static void promise04_aTextOf400Bytes() {
        Check.dueFault("wind 1" + " ".repeat(387) + ";wind 8", -1);
        Check.dueFault("wind 1" + " ".repeat(393) + ";", 400);
    }

    private static BarrelNight ten() {
        BarrelNight x = Check.told(LANED);
        for (int i = 2; i <= 10; i++) {
            Check.due("text " + i, Check.town(x, "wind 1"), i);
        }
        return x;
    }
}
