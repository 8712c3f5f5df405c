/** The edges of promises 5 and 6: THE LAW, and faults. Above each test stands the sentence that it is of. */
public final class Edges05And06Test {
    private static final String WRONG = "IllegalArgumentException";

    public static void main(String[] args) throws Exception {
        Check.runAll(Edges05And06Test.class);
    }

    /** Yard 0 with so many people is heated, from second 0 on, by a barrel of weight 6; yard 1 holds 999. */
    private static BarrelNight heated(int people) {
        return Check.told("yard 999 " + people + " wall 99 door 0;yard 999 0 wall 0 door 0;lane 0 1;push 0;wind 4;"
                + "barrel at 0 pace 60 tar 1 weight 6 way 0");
    }

    private static void dueBack(String law, int people, int want) {
        BarrelNight x = heated(people);
        Check.due("law " + law + " is read", Check.law(x, law) instanceof Integer, true);
        x.seconds(1);
        Check.due("back by " + law, x.yard(1, 1), want);
    }

    /** Whether a condition holds of yard 0: 200 people, holds 999, wind 4, weight 6, second 0. */
    private static void dueHolds(String condition, boolean want) {
        dueBack("back 5 if " + condition, 200, want ? 5 : 0);
    }

    // "LINE { ; LINE }, at most 12"
    private static void promise05_twelveLines() {
        BarrelNight x = new BarrelNight();
        Check.due("lines", Check.law(x, Check.times(12, "back 1")), 12);
        Check.due("count", x.count(5), 12);
        dueBack(Check.times(12, "back 3"), 200, 36);
    }

    // "of a LINE too many .. the first word"; "or the text's length, if more must come"
    private static void promise05_aLineTooMany() {
        String all = Check.times(12, "back 1");
        Check.dueLawFault(all, -1);
        Check.dueLawFault(all + ";back 1", 84);
        Check.dueLawFault(all + "  ;  back 1;back 1", 88);
        Check.dueLawFault(all + ";", 84);
        Check.dueLawFault(all + ";  ", 86);
    }

    // "A text that is empty, or blanks alone, has no LINE.": it is a text, and so BACK is 0, not 10.
    private static void promise05_anEmptyText() {
        BarrelNight x = heated(200);
        Check.due("lines", Check.law(x, ""), 0);
        Check.due("count", x.count(5), 0);
        x.seconds(1);
        Check.due("back", x.yard(1, 1), 0);
        Check.due("blanks", Check.law(x, "    "), 0);
        Check.due("fault", x.fault(), -1);
    }

    // "BACK: the sum of N of all LINES that hold (10 without a text)."
    private static void promise05_tenWithoutAText() {
        BarrelNight x = heated(200);
        Check.due("no law", x.count(5), -1);
        x.seconds(1);
        Check.due("back", x.yard(1, 1), 10);
    }

    // "10 without a text": also behind a wrong one.
    private static void promise05_tenBehindAWrongTextAlone() {
        BarrelNight x = heated(200);
        Check.due("wrong", Check.law(x, "back 5;back"), WRONG);
        Check.due("no law", x.count(5), -1);
        x.seconds(1);
        Check.due("back", x.yard(1, 1), 10);
    }

    // "the sum of N of all LINES that hold": all, some, none.
    private static void promise05_theSumOfThoseThatHold() {
        dueBack("back 1;back 20;back 300", 999, 321);
        dueBack("back 1;back 20 if thatch;back 300", 999, 301);
        dueBack("back 1 if thatch;back 20 if not at", 999, 0);
        dueBack("back 999;back 999;back 999", 999, 999);
    }

    // "back N": "All numbers are of 1 to 3 digits."
    private static void promise05_theNumberOfALine() {
        dueBack("back 0", 999, 0);
        dueBack("back 999", 999, 999);
        dueBack("back 007", 999, 7);
        Check.dueLawFault("back 1000", 5);
        Check.dueLawFault("back 0007", 5);
        Check.dueLawFault("back -1", 5);
    }

    // "All numbers are of 1 to 3 digits.": of a SUM.
    private static void promise05_theNumberOfASum() {
        Check.dueLawFault("back 1 if 999 > 0", -1);
        Check.dueLawFault("back 1 if 1000 > 0", 10);
        Check.dueLawFault("back 1 if 0 < 0001", 14);
        Check.dueLawFault("back 1 if 0 < 1 + 9999", 18);
        dueHolds("999 > 998", true);
        dueHolds("999 + 999 > 998 + 999", true);
    }

    // "SUM < SUM | SUM > SUM": neither holds of two that are the same.
    private static void promise05_twoThatAreTheSame() {
        dueHolds("5 < 5", false);
        dueHolds("5 > 5", false);
        dueHolds("4 < 5", true);
        dueHolds("5 < 4", false);
        dueHolds("5 > 4", true);
        dueHolds("4 > 5", false);
    }

    // "PART: NUMBER | people | holds | inside | yard | weight | wind | second"
    private static void promise05_eachPartIsJustWhatItIs() {
        String[] parts = {"people", "200", "holds", "999", "inside", "7", "yard", "2", "weight", "6", "wind", "4",
            "second", "3", "012", "12"};
        for (int i = 0; i < parts.length; i += 2) {
            dueHoldsOfYard2(parts[i] + " < " + parts[i + 1], false);
            dueHoldsOfYard2(parts[i] + " > " + parts[i + 1], false);
            dueHoldsOfYard2(parts[i] + " + 1 > " + parts[i + 1], true);
            dueHoldsOfYard2(parts[i] + " < " + parts[i + 1] + " + 1", true);
        }
    }

    /** At second 3 seven are inside of yard 2, and 200 are not. */
    private static void dueHoldsOfYard2(String condition, boolean want) {
        BarrelNight x = Check.told("yard 999 0 wall 0 door 0;yard 9 0 wall 0 door 0;yard 999 207 wall 99 door 7;lane 2 0;"
                + "push 0;wind 4;barrel at 2 pace 60 tar 1 weight 6 way 2");
        Check.law(x, "back 7");
        x.seconds(3);
        Check.due("law of " + condition, Check.law(x, "back 5 if " + condition), 1);
        x.seconds(1);
        Check.due("back if " + condition, x.yard(0, 1), want ? 5 : 0);
    }

    // "SUM: PART { + PART }": each one counts, and those of the one LINE not for the next.
    private static void promise05_sums() {
        dueHolds("people + wind + weight < 210", false);
        dueHolds("people + wind + weight > 209", true);
        dueHolds("210 > people + wind + weight", false);
        dueHolds("211 > people + wind + weight", true);
        dueBack("back 1 if 9 > 1;back 2 if 3 > 4;back 4 if 1 < 2", 200, 5);
        dueBack("back 1 if 1 < 2;back 2 if 5 > 5;back 4 if 5 < 5", 200, 1);
        dueBack("back 1 if 2 > 1;back 2 if 5 < 5;back 4 if 5 > 5", 200, 1);
        dueHolds("1 < 2 and 5 > 5", false);
        dueHolds("2 > 1 and 5 < 5", false);
    }

    // "C: ALL { or ALL }; ALL: ATOM { and ATOM }; ATOM: not ATOM | ( C )"
    private static void promise05_whatBindsCloser() {
        dueHolds("at or thatch and thatch", true);
        dueHolds("(at or thatch) and thatch", false);
        dueHolds("thatch and thatch or at", true);
        dueHolds("thatch and (thatch or at)", false);
        dueHolds("not thatch or at", true);
        dueHolds("not (thatch or at)", false);
        dueHolds("not at and thatch", false);
        dueHolds("not (at and thatch)", true);
        dueHolds("not 1 < 2 or at", true);
    }

    // "( and not within one another at most 6 deep"
    private static void promise05_sixDeep() {
        Check.dueLawFault("back 1 if ((((((at))))))", -1);
        Check.dueLawFault("back 1 if not not not not not not at", -1);
        Check.dueLawFault("back 1 if not(not(not(at)))", -1);
        dueHolds("not not not not not not at", true);
        dueHolds("not(not(not(at)))", false);
    }

    // "the ( or not that is a 7th one deep"
    private static void promise05_sevenDeep() {
        Check.dueLawFault("back 1 if (((((((at)))))))", 16);
        Check.dueLawFault("back 1 if not not not not not not not at", 34);
        Check.dueLawFault("back 1 if not(not(not((at or (at)))))", 22);
        Check.dueLawFault("back 1 if ((((((not at))))))", 16);
        Check.dueLawFault("back 1 if ((((((at and not at))))))", 23);
        Check.dueLawFault("back 1 if not not not not not not (at)", 34);
    }

    // "within one another": beside one another they may be many.
    private static void promise05_depthIsWithinOneAnotherAlone() {
        Check.dueLawFault("back 1 if ((((((at)))))) or ((((((at)))))) and ((((((at))))))", -1);
        Check.dueLawFault("back 1 if not at and not at and not at and not at and not at and not at and not at", -1);
        Check.dueLawFault("back 1 if ((((((at))))));back 1 if ((((((at))))))", -1);
        Check.dueLawFault("back 1 if (at) or (at) or (at) or (at) or (at) or (at) or (at) or (at)", -1);
    }

    // "between all there may be blanks (32), also ahead and behind"
    private static void promise05_blanks() {
        Check.dueLawFault("  back  1  if  (  not  at  or  people  +  1  <  2  )  ;  back  2  ", -1);
        Check.dueLawFault("back1if(not at or people+1<2);back2", -1);
        Check.dueLawFault("back\t1", 4);
        Check.dueLawFault("back 1\n", 6);
        Check.dueLawFault("backif", 0);
        Check.dueLawFault("back 1 ifat", 7);
        Check.dueLawFault("back 1 if notat", 10);
    }

    private static final String[] LINES = {"back 1 if at", "back 1 if thatch and at or not at",
        "back 1 if people + 1 < wind + second", "back 1 if ( inside > yard )"};

    // "or the text's length, if more must come": behind each thing behind which more must come.
    private static void promise05_moreMustCome() {
        String[] begun = {"back", "back 1 if", "back 1 if not", "back 1 if (", "back 1 if ( at", "back 1 if ( at or",
            "back 1 if at or", "back 1 if at and", "back 1 if people", "back 1 if people +", "back 1 if people + 1",
            "back 1 if people <", "back 1 if people >", "back 1 if people < 1 +", "back 1 if ( people < 1", "back 1 ;"};
        for (String text : begun) {
            Check.dueLawFault(text, text.length());
            Check.dueLawFault(text + "  ", text.length() + 2);
            Check.dueLawFault("back 1;" + text, text.length() + 7);
        }
        for (String text : new String[] {"back 1", "back 1 if at", "back 1 if people < 1", "back 1 if ( at )"}) {
            Check.dueLawFault(text, -1);
        }
    }

    // "the begin of the first thing that cannot stand there"
    private static void promise05_whatCannotStandThere() {
        for (String line : LINES) {
            String[] things = line.split(" ");
            for (int i = 0, at = 0; i < things.length; at += things[i].length() + 1, i++) {
                Check.dueLawFault(line.substring(0, at) + "?", at);
                Check.dueLawFault(line.substring(0, at) + "tar", at);
                Check.dueLawFault(line.substring(0, at) + "=" + line.substring(at), at);
            }
        }
        Check.dueLawFault("back 1 if holds > ( at )", 18);
        Check.dueLawFault("back 1 if (people) < 5", 17);
        Check.dueLawFault("back 1 if at)", 12);
        Check.dueLawFault("back 1 if ()", 11);
        Check.dueLawFault("back 1 if (at))", 14);
        Check.dueLawFault("back 1 if 1 < 2 < 3", 16);
        Check.dueLawFault("back 1 if at < 2", 13);
        Check.dueLawFault("back 1 if 1 < at", 14);
        Check.dueLawFault("back 1 if not < 2", 14);
        Check.dueLawFault("back 1 at", 7);
        Check.dueLawFault("back 1 back 1", 7);
        Check.dueLawFault("back 1 2", 7);
        Check.dueLawFault("back 1;;back 1", 7);
        Check.dueLawFault(";back 1", 0);
        Check.dueLawFault("yard 1 1 wall 1 door 1", 0);
    }

    // "THE LAW (a text, in place of the one before)"
    private static void promise05_inPlaceOfTheOneBefore() {
        BarrelNight x = heated(200);
        Check.due("two lines", Check.law(x, "back 7;back 8"), 2);
        Check.due("one line", Check.law(x, "back 3"), 1);
        Check.due("count", x.count(5), 1);
        x.seconds(1);
        Check.due("back", x.yard(1, 1), 3);
    }

    // "Of a wrong text nothing stays."
    private static void promise05_behindAWrongTextTheOneBeforeStands() {
        BarrelNight x = heated(200);
        Check.due("two lines", Check.law(x, "back 7;back 8"), 2);
        Check.due("wrong", Check.law(x, "back 1;back 2;back 3;"), WRONG);
        Check.due("count", x.count(5), 2);
        x.seconds(1);
        Check.due("back", x.yard(1, 1), 15);
    }

    // "Uses the TAPE up": by a right text and by a wrong one.
    private static void promise05_theTapeIsUsedUp() {
        BarrelNight x = new BarrelNight();
        Check.due("right", Check.law(x, "back 1"), 1);
        Check.due("nothing is left", x.end(1), false);
        Check.due("wrong", Check.law(x, "x;back 1;back 2;back 3"), WRONG);
        Check.due("nothing is left", x.end(1), false);
    }

    // "A text, going back: none are remembered."
    private static void promise05_behindATextNoneAreRemembered() {
        BarrelNight x = heated(200);
        x.seconds(1);
        Check.due("empty", Check.law(x, ""), 0);
        Check.due("remembered", x.count(13), 0);
        Check.due("undo", x.undo(), false);
        Check.due("second", x.count(6), 1);
    }

    // "a call that throws changes nothing but the TAPE": what is remembered behind a wrong text.
    private static void promise05_behindAWrongTextAllAreRemembered() {
        BarrelNight x = heated(200);
        x.seconds(1);
        Check.due("wrong", Check.law(x, "x"), WRONG);
        Check.due("remembered", x.count(13), 1);
        Check.due("undo", x.undo(), true);
        Check.due("second", x.count(6), 0);
    }

    // "NONE, and none come, if it would have more than 400": a law of as many bytes, each thing of which counts.
    private static void promise05_aTextOf400Bytes() {
        StringBuilder text = new StringBuilder("back9if");
        while (text.length() < 390) {
            text.append("1<1or ");
        }
        text.append("1<0or 3>2");
        text.append(" ".repeat(400 - text.length()));
        Check.dueLawFault(text.toString(), -1);
        dueBack(text.toString(), 200, 9);
    }

    // "A text .. of THE TOWN (at most 10 ..)": of THE LAW there may be more.
    private static void promise05_moreThanTenLaws() {
        BarrelNight x = new BarrelNight();
        for (int i = 1; i <= 15; i++) {
            Check.due("law " + i, Check.law(x, "back 1"), 1);
        }
        Check.due("texts of the town", x.count(4), 0);
    }

    // "NONE without one, and ahead of any"
    private static void promise06_noneAheadOfAnyText() {
        Check.due("fault", new BarrelNight().fault(), -1);
    }

    // "The first wrong byte": the very first one, and the text's length.
    private static void promise06_theFirstByteAndTheLength() {
        BarrelNight x = new BarrelNight();
        Check.due("town", Check.town(x, "x"), WRONG);
        Check.due("fault", x.fault(), 0);
        Check.due("law", Check.law(x, "back"), WRONG);
        Check.due("fault", x.fault(), 4);
        Check.due("a full tape", Check.law(x, "back 1;" + " ".repeat(393)), WRONG);
        Check.due("fault", x.fault(), 400);
    }

    // "of the latest text that was read; NONE without one": behind a right text of either kind.
    private static void promise06_noneBehindARightText() {
        BarrelNight x = new BarrelNight();
        Check.due("wrong town", Check.town(x, "wind"), WRONG);
        Check.due("right law", Check.law(x, ""), 0);
        Check.due("fault", x.fault(), -1);
        Check.due("wrong law", Check.law(x, "back x"), WRONG);
        Check.due("fault", x.fault(), 5);
        Check.due("right town", Check.town(x, ""), 1);
        Check.due("fault", x.fault(), -1);
    }

    // "of the latest text that was read": a text that is right but the 11th was read, too.
    private static void promise06_noneBehindARight11thText() {
        BarrelNight x = new BarrelNight();
        for (int i = 1; i <= 10; i++) {
            Check.town(x, "");
        }
        Check.due("wrong", Check.town(x, "wind"), WRONG);
        Check.due("fault", x.fault(), 4);
        Check.due("right", Check.town(x, "wind 1"), "UnsupportedOperationException");
        Check.due("fault", x.fault(), -1);
    }

    // "of the latest text": what cameras tell is none.
    private static void promise06_aSpanIsNoText() {
        BarrelNight x = new BarrelNight();
        Check.due("wrong town", Check.town(x, "wind"), WRONG);
        Check.due("span", Check.span(x, true), 0);
        Check.due("fault", x.fault(), 4);
        Check.due("wrong span", Check.span(x, true, 97, 0, 0), WRONG);
        Check.due("fault", x.fault(), 4);
        Check.due("right town", Check.town(x, "wind 1"), 1);
        Check.due("wrong span", Check.span(x, true, 97, 0, 0), WRONG);
        Check.due("fault", x.fault(), -1);
    }

    // "all is as ahead of it (but for the TAPE, fault(), THE IMAGE)", "gone back to (but for the TAPE, fault() ..)"
    private static void promise06_undoingAndGoingBackLeaveIt() {
        BarrelNight x = new BarrelNight();
        x.image();
        x.seconds(1);
        Check.due("wrong town", Check.town(x, "wind"), WRONG);
        Check.due("undo", x.undo(), true);
        Check.due("fault", x.fault(), 4);
        Check.due("back", x.back(), true);
        Check.due("fault", x.fault(), 4);
    }
}
