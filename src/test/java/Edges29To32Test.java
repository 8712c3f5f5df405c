import java.util.ArrayList;
import java.util.List;

/** The edges of promises 29 to 32: undo, image, back, count. Above each test stands the sentence that it is of. */
public final class Edges29To32Test {
    private static final String WRONG = "IllegalArgumentException";
    // The ACTS, and SECONDS of one call: each changes something in the town of Check.everything().
    private static final Check.CallOf[] ACTS = {x -> x.put(1, false), x -> x.put(0, true), x -> x.come(2, 5),
        x -> x.come(2, 999), x -> x.delay(1, 7), x -> x.door(1, 8), x -> x.seconds(1), x -> x.seconds(200)};

    public static void main(String[] args) throws Exception {
        Check.runAll(Edges29To32Test.class);
    }

    // "whether there was one"
    private static void promise29_none() {
        BarrelNight x = new BarrelNight();
        Check.due("of a new object", x.undo(), false);
        BarrelNight y = Check.told("yard 9 0 wall 0 door 0");
        List<Integer> before = Check.seen(y);
        Check.due("behind a text", y.undo(), false);
        Check.due("nothing happens", Check.seen(y), before);
    }

    // "the latest ACT, or SECONDS of one call": "all is as ahead of it".
    private static void promise29_eachAct() {
        for (int i = 0; i < ACTS.length; i++) {
            BarrelNight x = Check.everything();
            List<Integer> before = Check.seen(x);
            ACTS[i].answer(x);
            Check.due("act " + i + " is remembered", x.count(13), 3);
            Check.due("undo of " + i, x.undo(), true);
            Check.due("all that is seen behind undoing " + i, Check.seen(x), before);
        }
    }

    // "the latest .. not undone yet": one behind another, the latest first.
    private static void promise29_oneBehindAnother() {
        BarrelNight x = Check.told("yard 99 0 wall 0 door 0");
        x.come(0, 1);
        x.come(0, 10);
        Check.due("undo 10", x.undo(), true);
        Check.due("people", x.yard(0, 1), 1);
        x.come(0, 20);
        Check.due("undo 20", x.undo(), true);
        Check.due("people", x.yard(0, 1), 1);
        Check.due("undo 1, as 10 is undone already", x.undo(), true);
        Check.due("people", x.yard(0, 1), 0);
        Check.due("no more", x.undo(), false);
    }

    // "(12 are remembered)": twelve, and of thirteen the first is not.
    private static void promise29_twelve() {
        for (int acts = 12; acts <= 14; acts++) {
            BarrelNight x = Check.told("yard 99 0 wall 0 door 0");
            for (int i = 0; i < acts; i++) {
                x.come(0, 1);
            }
            Check.due("remembered of " + acts, x.count(13), 12);
            for (int i = 1; i <= 12; i++) {
                Check.due("undo " + i + " of " + acts, x.undo(), true);
                Check.due("people", x.yard(0, 1), acts - i);
            }
            Check.due("13 of " + acts, x.undo(), false);
            Check.due("people", x.yard(0, 1), acts - 12);
        }
    }

    // "(12 are remembered)": going round, with some undone between.
    private static void promise29_twelveGoingRound() {
        BarrelNight x = Check.told("yard 999 0 wall 0 door 0");
        for (int round = 0; round < 5; round++) {
            for (int i = 0; i < 11; i++) {
                x.come(0, 1);
            }
            for (int i = 0; i < 4; i++) {
                x.undo();
            }
        }
        Check.due("people", x.yard(0, 1), 35);
        Check.due("remembered", x.count(13), 8);
        for (int i = 7; i >= 0; i--) {
            x.undo();
            Check.due("remembered", x.count(13), i);
        }
        Check.due("people", x.yard(0, 1), 27);
        Check.due("no more", x.undo(), false);
    }

    // "SECONDS of one call": 600 of them are undone at once, and each call by itself.
    private static void promise29_secondsOfOneCall() {
        BarrelNight x = new BarrelNight();
        x.seconds(600);
        x.seconds(1);
        x.undo();
        Check.due("second", x.count(6), 600);
        x.undo();
        Check.due("second", x.count(6), 0);
    }

    // "a call that throws changes nothing": a refused ACT is not remembered.
    private static void promise29_refusedActsAreNotRemembered() {
        BarrelNight x = Check.everything();
        Check.of(() -> x.put(2, true));
        Check.of(() -> x.come(0, 0));
        Check.of(() -> x.come(3, 1));
        Check.of(() -> x.delay(0, 1));
        Check.of(() -> x.delay(1, 0));
        Check.of(() -> x.door(0, 100));
        Check.of(() -> x.seconds(0));
        Check.due("remembered", x.count(13), 2);
    }

    // "UNDONE: the latest ACT, or SECONDS": no other call is one.
    private static void promise29_noOtherCallIsAnAct() {
        BarrelNight x = Check.everything();
        x.image();
        x.trial(9);
        x.opens(0);
        x.mends(1);
        x.meet(0, 1);
        x.starts(0, 1);
        x.changes(0, -1);
        x.last(0, 0);
        x.ambulance(0, 0);
        x.keep();
        x.sparks(true);
        x.let(1);
        x.span(true);
        x.fault();
        x.feed(0, 0, 0, 0, 0);
        x.end(3);
        Check.due("remembered", x.count(13), 2);
        x.undo();
        Check.due("an undoing is none either", x.count(13), 1);
    }

    // "(but for the TAPE, fault(), THE IMAGE)"
    private static void promise29_butForTapeFaultAndImage() {
        BarrelNight x = Check.told("yard 99 0 wall 0 door 0");
        x.come(0, 1);
        Check.due("wrong text", Check.town(x, "wind"), WRONG);
        x.image();
        Check.feed(x, "wind 7");
        Check.due("undo", x.undo(), true);
        Check.due("the fault", x.fault(), 4);
        Check.due("the tape", x.end(7), false);
        Check.due("the tape", x.end(6), true);
        Check.due("the image", x.back(), true);
        Check.due("as it was kept", x.yard(0, 1), 1);
        Check.due("the text", Check.of(x::town), 2);
        Check.due("wind", x.count(10), 7);
    }

    // "A text, going back: none are remembered."
    private static void promise29_behindATextOrGoingBackNone() {
        BarrelNight x = Check.everything();
        Check.due("law", Check.law(x, "back 1"), 1);
        Check.due("behind a law", x.undo(), false);
        x.come(0, 1);
        Check.due("town", Check.town(x, "wind 1"), 3);
        Check.due("behind a text of the town", x.undo(), false);
        x.image();
        x.come(0, 1);
        Check.due("back", x.back(), true);
        Check.due("behind going back", x.undo(), false);
    }

    // "A text, going back": not one that is refused.
    private static void promise29_behindARefusedTextOrGoingBackAll() {
        BarrelNight x = Check.everything();
        Check.due("wrong law", Check.law(x, "back"), WRONG);
        Check.due("wrong town", Check.town(x, "wind"), WRONG);
        Check.due("no image", x.back(), false);
        Check.due("remembered", x.count(13), 2);
        Check.due("undo", x.undo(), true);
        Check.due("undo", x.undo(), true);
        Check.due("second", x.count(6), 0);
        Check.due("people", x.yard(0, 1), 20);
    }

    // "THE IMAGE (one) of all may be kept": of nothing told, too.
    private static void promise30_ofANewObject() {
        BarrelNight x = new BarrelNight();
        List<Integer> before = Check.seen(x);
        x.image();
        Check.town(x, "yard 9 4 wall 0 door 0 thatch;wind 3;push 3;bearer 1 1;barrel at 0 pace 1 tar 1 weight 1 way 0");
        Check.law(x, "back 1");
        x.seconds(3);
        Check.due("back", x.back(), true);
        Check.due("all that is seen", Check.seen(x), before);
        Check.due("no law", x.count(5), -1);
        Check.dueThrow("no yard", () -> x.yard(0, 0), IndexOutOfBoundsException.class);
    }

    // "THE IMAGE (one)": a second one in place of the first.
    private static void promise30_oneAlone() {
        BarrelNight x = Check.told("yard 99 0 wall 0 door 0");
        x.come(0, 1);
        x.image();
        x.come(0, 10);
        x.image();
        x.come(0, 20);
        x.back();
        Check.due("the second one", x.yard(0, 1), 11);
    }

    // "THE IMAGE is kept": and nothing else happens.
    private static void promise30_nothingElseHappens() {
        BarrelNight x = Check.everything();
        Check.feed(x, "wind 3");
        List<Integer> before = Check.seen(x);
        x.image();
        Check.due("all that is seen", Check.seen(x), before);
        Check.due("the tape", x.end(6), true);
        Check.due("undo", x.undo(), true);
        Check.due("undo", x.undo(), true);
        Check.due("no more", x.undo(), false);
    }

    // "THE IMAGE .. of all": what is done later does not change it.
    private static void promise30_whatIsDoneLaterDoesNotChangeIt() {
        BarrelNight x = Check.everything();
        List<Integer> before = new ArrayList<>(Check.seen(x));
        x.image();
        for (Check.CallOf act : ACTS) {
            act.answer(x);
        }
        Check.law(x, "back 9;back 9;back 9");
        Check.town(x, "yard 9 9 wall 9 door 9;lane 0 3;open 0;shut 1;wind 9;push 9;bearer 1 1");
        x.back();
        before.set(5 + 13, 0);
        Check.due("all that is seen but for the acts", Check.seen(x), before);
    }

    // "false, and nothing happens, if none was kept."
    private static void promise31_noneWasKept() {
        BarrelNight x = Check.everything();
        List<Integer> before = Check.seen(x);
        Check.due("back", x.back(), false);
        Check.due("all that is seen", Check.seen(x), before);
        Check.due("undo", x.undo(), true);
    }

    // "One goes back to THE IMAGE: true": again and again.
    private static void promise31_againAndAgain() {
        BarrelNight x = Check.told("yard 99 5 wall 0 door 0");
        x.image();
        for (int i = 0; i < 3; i++) {
            x.come(0, 7 + i);
            Check.due("back", x.back(), true);
            Check.due("people", x.yard(0, 1), 5);
        }
        Check.due("at once again", x.back(), true);
    }

    // "(but for the TAPE, fault() and THE IMAGE itself)"
    private static void promise31_butForTapeAndFault() {
        BarrelNight x = Check.told("yard 99 0 wall 0 door 0");
        Check.feed(x, "wind 8");
        x.image();
        x.end(0);
        Check.due("wrong text", Check.town(x, "wind"), WRONG);
        Check.feed(x, "wind 71");
        Check.due("back", x.back(), true);
        Check.due("the fault of now", x.fault(), 4);
        Check.due("the tape of now", x.end(8), false);
        x.end(6);
        Check.due("its text", Check.of(x::town), 2);
        Check.due("wind", x.count(10), 7);
    }

    // "going back: none are remembered": neither those of now nor those of the image.
    private static void promise31_noneAreRemembered() {
        BarrelNight x = Check.told("yard 99 0 wall 0 door 0");
        x.come(0, 1);
        x.image();
        x.come(0, 10);
        x.back();
        Check.due("remembered", x.count(13), 0);
        Check.due("undo", x.undo(), false);
        Check.due("people", x.yard(0, 1), 1);
    }

    // "NONE for another what."
    private static void promise32_anotherWhat() {
        BarrelNight x = Check.everything();
        for (int what : new int[] {-1, 14, 15, Integer.MIN_VALUE, Integer.MAX_VALUE}) {
            Check.due("what " + what, x.count(what), -1);
        }
    }

    // "0 YARDS, 1 LANES, 2 BARRELS, 3 BEARERS, 4 texts of THE TOWN": as many as there can be.
    private static void promise32_asManyAsThereCanBe() {
        String yard = "yard 999 999 wall 9 door 9";
        String way = "barrel at 0 pace 60 tar 9 weight 9 way 0";
        BarrelNight x = Check.told(Check.times(13, yard), Check.times(3, yard), Check.times(12, "lane 0 1"),
                Check.times(12, "lane 2 1"), Check.times(6, way), Check.times(9, "bearer 1 1"), "", "", "", "wind 9;push 9");
        Check.due("law", Check.law(x, Check.times(12, "back 0")), 12);
        int[] want = {16, 24, 6, 9, 10, 12, 0, 16 * 999, 0, 0, 9, 9, 6, 0};
        for (int what = 0; what < want.length; what++) {
            Check.due("count " + what, x.count(what), want[what]);
        }
        Check.due("caught by six", x.seconds(1), 6 * 990);
        Check.due("caught", x.count(9), 6 * 990);
    }

    // "5 LINES of THE LAW (NONE without one)": none, and a law of none.
    private static void promise32_linesOfTheLaw() {
        BarrelNight x = new BarrelNight();
        Check.due("without", x.count(5), -1);
        Check.due("wrong", Check.law(x, "x"), WRONG);
        Check.due("without", x.count(5), -1);
        x.image();
        Check.due("empty", Check.law(x, ""), 0);
        Check.due("of none", x.count(5), 0);
        x.back();
        Check.due("without again", x.count(5), -1);
    }

    // "7 PEOPLE of all, 8 INSIDE of all": the ones are not among the others.
    private static void promise32_peopleAndInside() {
        BarrelNight x = Check.told("yard 9 5 wall 9 door 3;yard 9 7 wall 9 door 9;push 0;"
                + "barrel at 0 pace 60 tar 1 weight 1 way 0;barrel at 0 pace 60 tar 1 weight 1 way 1");
        Check.due("people at first", x.count(7), 12);
        Check.due("inside at first", x.count(8), 0);
        x.seconds(1);
        Check.due("people", x.count(7), 2);
        Check.due("inside", x.count(8), 10);
    }

    // "12 BARRELS that are ON": from the START to the last SECOND.
    private static void promise32_barrelsThatAreOn() {
        BarrelNight x = Check.told("yard 9 0 wall 0 door 0;barrel at 1 pace 2 tar 1 weight 1 way 0;"
                + "barrel at 2 pace 2 tar 1 weight 1 way 0;barrel at 5 pace 1 tar 1 weight 1 way 0");
        int[] want = {0, 1, 2, 1, 0, 1, 0};
        for (int second = 0; second < want.length; second++) {
            Check.due("on at " + second, x.count(12), want[second]);
            x.seconds(1);
        }
    }

    // "13 acts that can be UNDONE": 0 to 12.
    private static void promise32_actsThatCanBeUndone() {
        BarrelNight x = Check.told("yard 9 0 wall 0 door 0");
        for (int i = 0; i <= 14; i++) {
            Check.due("behind " + i, x.count(13), Math.min(i, 12));
            x.door(0, 1);
        }
    }
}
