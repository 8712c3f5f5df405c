/** The edges of promises 1 to 3: a new object, feed, end. Above each test stands the sentence that it is of. */
public final class Edges01To03Test {
    private static final int BLANKS = 0x20202020;

    public static void main(String[] args) throws Exception {
        Check.runAll(Edges01To03Test.class);
    }

    // "Nothing told."
    private static void promise01_allCountsAreThoseOfNothing() {
        BarrelNight x = new BarrelNight();
        int[] want = {0, 0, 0, 0, 0, -1, 0, 0, 0, 0, 0, 1, 0, 0};
        for (int what = 0; what < want.length; what++) {
            Check.due("count " + what, x.count(what), want[what]);
        }
    }

    // "WIND 0 to 9 (0 at first). PUSH 0 to 9 (1 at first). SECOND: 0 at first."
    private static void promise01_windPushAndSecondAtFirst() {
        BarrelNight x = new BarrelNight();
        Check.due("wind", x.count(10), 0);
        Check.due("push", x.count(11), 1);
        Check.due("second", x.count(6), 0);
    }

    // "IndexOutOfBoundsException: there is no such YARD, LANE, BARREL, BEARER."
    private static void promise01_thereIsNoFirstOfAnything() {
        Check.CallOf[] calls = {x -> x.yard(0, 0), x -> x.lane(0, 0), x -> x.barrel(0, 0), x -> x.step(0, 0),
            x -> x.bearer(0, false), x -> x.bearer(0, true), x -> x.put(0, true), x -> x.put(0, false), x -> x.come(0, 1),
            x -> x.delay(0, 1), x -> x.door(0, 1), x -> x.opens(0), x -> x.meet(0, 1), x -> x.starts(0, 1),
            x -> x.changes(0, -1), x -> x.last(0, 0), x -> x.ambulance(0, 0)};
        BarrelNight x = new BarrelNight();
        for (int i = 0; i < calls.length; i++) {
            Check.CallOf call = calls[i];
            Check.dueThrow("call " + i, () -> call.answer(x), IndexOutOfBoundsException.class);
        }
    }

    // "Nothing told": what is asked of all YARDS is asked of none.
    private static void promise01_answersOfAnEmptyTown() {
        BarrelNight x = new BarrelNight();
        Check.due("keep", x.keep(), -1);
        Check.due("danger", x.sparks(false), 0);
        Check.due("buckets", x.sparks(true), 0);
        Check.due("let", x.let(-1), 0);
        Check.due("least span", x.span(false), 0);
        Check.due("most span", x.span(true), 0);
        Check.due("trial", x.trial(600), 0);
        Check.due("mends", x.mends(99), 0);
        Check.due("seconds", x.seconds(600), 0);
    }

    // "Nothing told": no text was read, no act is remembered, no image kept, and the TAPE is empty.
    private static void promise01_nothingWasReadKeptOrDone() {
        BarrelNight x = new BarrelNight();
        Check.due("fault", x.fault(), -1);
        Check.due("undo", x.undo(), false);
        Check.due("back", x.back(), false);
        Check.due("tape", x.end(1), false);
    }

    // "Nothing told": of no other object either.
    private static void promise01_twoObjectsShareNothing() {
        BarrelNight first = Check.everything();
        first.image();
        Check.feed(first, "wind x");
        BarrelNight x = new BarrelNight();
        Check.due("yards", x.count(0), 0);
        Check.due("law", x.count(5), -1);
        Check.due("tape", x.end(1), false);
        Check.due("image", x.back(), false);
        Check.due("undo", x.undo(), false);
    }

    // "An object is used for at most 512 calls after it has been made".
    private static void promise01_the512thCallStillAnswers() {
        BarrelNight x = new BarrelNight();
        for (int i = 1; i <= 508; i += 4) {
            x.feed(0x6261636b, 0x20313220, 0, 0, 0);
            x.end(7);
            Check.due("law by call " + (i + 2), x.law(), 1);
            x.seconds(600);
        }
        Check.due("call 509", x.undo(), true);
        x.image();
        Check.due("call 511", x.back(), true);
        Check.due("call 512", x.count(6), 126 * 600);
    }

    // "Twenty bytes come behind the TAPE ..: how many it has"
    private static void promise02_howManyTheTapeHas() {
        BarrelNight x = new BarrelNight();
        for (int i = 1; i <= 20; i++) {
            Check.due("feed " + i, x.feed(0, 0, 0, 0, 0), 20 * i);
        }
    }

    // "NONE, and none come, if it would have more than 400": the full TAPE.
    private static void promise02_aFullTapeTakesNone() {
        BarrelNight x = full();
        Check.due("the 21st feed", x.feed(0, 0, 0, 0, 0), -1);
        Check.due("once more", x.feed(-1, -1, -1, -1, -1), -1);
        Check.due("401 are not there", x.end(401), false);
        Check.due("400 are", x.end(400), true);
    }

    // "NONE, and none come": the bytes that are there stay as they are.
    private static void promise02_aRefusedFeedLeavesTheBytes() {
        BarrelNight x = full();
        x.feed(0x78787878, 0x78787878, 0x78787878, 0x78787878, 0x78787878);
        Check.due("still blanks alone", Check.of(x::town), 1);
    }

    // "if it would have more than 400": 381 and 20 are one more.
    private static void promise02_380AndTwentyFitAnd381DoNot() {
        BarrelNight x = full();
        x.end(381);
        Check.due("381", x.feed(BLANKS, BLANKS, BLANKS, BLANKS, BLANKS), -1);
        Check.due("none came", x.end(382), false);
        x.end(380);
        Check.due("380", x.feed(BLANKS, BLANKS, BLANKS, BLANKS, BLANKS), 400);
    }

    // "of each number the highest first": bytes of 128 and more, and numbers below 0, too.
    private static void promise02_bytesOfNumbersBelow0() {
        BarrelNight x = Check.told("yard 999 0 wall 0 door 0;yard 999 0 wall 0 door 0;yard 999 0 wall 0 door 0");
        x.feed(0x61000162, 0x00ff6303, 0xe7000000, 0, 0);
        x.end(9);
        Check.due("1 and 255 and 999", x.span(false), 1255);
    }

    // "of each number the highest first": and of the numbers the first one.
    private static void promise02_allTwentyBytesInTheirOrder() {
        BarrelNight x = new BarrelNight();
        x.feed(0x77696e64, 0x20373b70, 0x75736820, 0x353b7769, 0x6e642036);
        Check.due("wind 7;push 5;wind 6", Check.of(x::town), 1);
        Check.due("wind", x.count(10), 6);
        Check.due("push", x.count(11), 5);
    }

    // "Twenty bytes come behind the TAPE": behind what end left of it, or from its begin, if it was used up.
    private static void promise02_behindWhatIsLeft() {
        BarrelNight x = new BarrelNight();
        x.feed(0x77696e64, 0x20000000, 0, 0, 0);
        x.end(5);
        Check.due("behind 5", x.feed(0x34000000, 0, 0, 0, 0), 25);
        x.end(6);
        Check.due("wind 4", Check.of(x::town), 1);
        Check.due("wind", x.count(10), 4);
        Check.due("behind a text", x.feed(0, 0, 0, 0, 0), 20);
    }

    // "The TAPE has its first n bytes alone: true": all of them, some, none.
    private static void promise03_allSomeAndNone() {
        BarrelNight x = new BarrelNight();
        x.feed(0, 0, 0, 0, 0);
        Check.due("all", x.end(20), true);
        Check.due("one fewer", x.end(19), true);
        Check.due("none", x.end(0), true);
        Check.due("none of none", x.end(0), true);
        Check.due("one of none", x.end(1), false);
    }

    // "false, and nothing happens, if it has fewer"
    private static void promise03_moreThanThereAre() {
        BarrelNight x = new BarrelNight();
        x.feed(0, 0, 0, 0, 0);
        Check.due("21", x.end(21), false);
        Check.due("400", x.end(400), false);
        Check.due("the greatest", x.end(Integer.MAX_VALUE), false);
        Check.due("20 are there still, and no more", x.feed(0, 0, 0, 0, 0), 40);
    }

    // "false, and nothing happens, if .. n is below 0"
    private static void promise03_below0() {
        BarrelNight x = new BarrelNight();
        x.feed(0, 0, 0, 0, 0);
        Check.due("-1", x.end(-1), false);
        Check.due("the least", x.end(Integer.MIN_VALUE), false);
        Check.due("20 are there still, and no more", x.feed(0, 0, 0, 0, 0), 40);
    }

    // "its first n bytes alone": those behind do not come again.
    private static void promise03_whatIsCutIsGone() {
        BarrelNight x = new BarrelNight();
        Check.feed(x, "wind 7x");
        x.end(6);
        Check.due("not 7 again", x.end(7), false);
        Check.due("wind 7", Check.of(x::town), 1);
        Check.due("wind", x.count(10), 7);
    }

    private static BarrelNight full() {
        BarrelNight x = new BarrelNight();
        for (int i = 1; i <= 20; i++) {
            x.feed(BLANKS, BLANKS, BLANKS, BLANKS, BLANKS);
        }
        return x;
    }
}
