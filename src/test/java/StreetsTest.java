/** Promises 24 to 28: ambulances, where they are kept, sparks and buckets, the gates, spans. */
public final class StreetsTest {
    private static final String YARD = "yard 9 4 wall 0 door 0";
    private static final String FOUR = YARD + ";" + YARD + ";" + YARD + ";" + YARD;

    public static void main(String[] args) {
        ambulance();
        farAmbulance();
        keep();
        sparks();
        buckets();
        let();
        span();
        Check.finish();
    }

    private static void ambulance() {
        // A line of 0, 1, 2, 3; the barrel is at 1 from second 0 to 9, at 2 from 10 to 19.
        BarrelNight x = Check.told(FOUR + ";lane 0 1;lane 1 2;lane 2 3;barrel at 0 pace 10 tar 9 weight 1 way 1 2");
        Check.dueThrow("ambulance 4", () -> x.ambulance(4, 0), IndexOutOfBoundsException.class);
        Check.dueThrow("ambulance to -1", () -> x.ambulance(0, -1), IndexOutOfBoundsException.class);
        Check.due("to itself", x.ambulance(0, 0), 0);
        Check.due("to itself where the barrel is", x.ambulance(1, 1), -1);
        Check.due("from where the barrel is", x.ambulance(1, 0), -1);
        Check.due("it waits", x.ambulance(0, 1), 10);
        // It is at 1 from second 10 to 19, then at 2 in 20, at 3 in 21.
        Check.due("it waits twice", x.ambulance(0, 3), 21);
        Check.due("by one that goes ahead", x.ambulance(2, 3), 1);
        // At 2 it must be gone from 10 on, and comes to 1 in 10 just as the barrel leaves it.
        Check.due("past the barrel", x.ambulance(2, 0), 11);
        x.seconds(10);
        Check.due("from now on", x.ambulance(0, 1), 1);
        Check.due("from where it is now", x.ambulance(2, 3), -1);
        x.put(0, false);
        Check.due("shut", x.ambulance(0, 1), -1);
        Check.due("nothing passes", x.count(6), 10);
    }

    private static void farAmbulance() {
        // Yard 1 is free from second 300 on.
        String barrels = "barrel at 0 pace 60 tar 9 weight 1 way 1;barrel at 60 pace 60 tar 9 weight 1 way 1;"
                + "barrel at 120 pace 60 tar 9 weight 1 way 1;barrel at 180 pace 60 tar 9 weight 1 way 1";
        BarrelNight x = Check.told(YARD + ";" + YARD + ";lane 0 1", barrels, "barrel at 240 pace 60 tar 9 weight 1 way 1");
        Check.due("300", x.ambulance(0, 1), 300);
        x.seconds(1);
        Check.due("299", x.ambulance(0, 1), 299);
        BarrelNight y = Check.told(YARD + ";" + YARD + ";lane 0 1", barrels, "barrel at 240 pace 60 tar 9 weight 1 way 1;"
                + "barrel at 300 pace 1 tar 9 weight 1 way 1");
        Check.due("301", y.ambulance(0, 1), -1);
    }

    private static void keep() {
        Check.due("one yard", Check.told(YARD).keep(), 0);
        Check.due("two yards", Check.told(YARD + ";" + YARD).keep(), 1);
        Check.due("three apart", Check.told(YARD + ";" + YARD + ";" + YARD).keep(), -1);
        Check.due("three and one lane", Check.told(YARD + ";" + YARD + ";" + YARD + ";lane 1 2").keep(), 1);
        // A line of eight: 0 to 2 are two steps from 0, 3 to 7 from 5; no pair is one step from all.
        BarrelNight x = Check.told(FOUR + ";" + FOUR, "lane 0 1;lane 1 2;lane 2 3;lane 3 4;lane 4 5;lane 5 6;lane 6 7");
        Check.due("a line of eight", x.keep(), 5);
        Check.due("shut", x.put(3, false), true);
        Check.due("in two lines", x.keep(), 105);
        Check.due("shut", x.put(0, false), true);
        Check.due("in three", x.keep(), -1);
        // A star of ten: the middle is one step from all, and any other beside it.
        BarrelNight y = Check.told(FOUR + ";" + FOUR + ";" + YARD + ";" + YARD,
                "lane 9 0;lane 9 1;lane 9 2;lane 9 3;lane 9 4;lane 9 5;lane 9 6;lane 9 7;lane 9 8");
        Check.due("a star", y.keep(), 9);
    }

    private static void sparks() {
        String thatch = "yard 9 0 wall 0 door 0 thatch";
        // A line of 0 to 5, all with thatch but 2; the way is 1 2; lane 0 is shut.
        BarrelNight x = Check.told(thatch + ";" + thatch + ";yard 9 0 wall 0 door 0;" + thatch + ";" + thatch + ";" + thatch,
                "lane 0 1;lane 1 2;lane 2 3;lane 3 4;lane 4 5;shut 0;barrel at 0 pace 1 tar 1 weight 3 way 1 2;wind 5");
        Check.due("8 is not more than 8", x.sparks(false), 0);
        Check.due("no buckets", x.sparks(true), 0);
        Check.town(x, "wind 6");
        Check.due("danger", x.sparks(false), 1 + 2 + 8);
        Check.due("buckets", x.sparks(true), 1 + 4);
        Check.town(x, "barrel at 0 pace 1 tar 1 weight 2 way 4 5;wind 6");
        Check.due("not by the light one", x.sparks(false), 1 + 2 + 8);
        Check.town(x, "wind 7");
        Check.due("by both", x.sparks(false), 1 + 2 + 8 + 16 + 32);
        Check.due("buckets for both", x.sparks(true), 1 + 16);
    }

    private static void buckets() {
        String thatch = "yard 9 0 wall 0 door 0 thatch";
        String four = thatch + ";" + thatch + ";" + thatch + ";" + thatch;
        String heavy = "barrel at 0 pace 1 tar 1 weight 20 way ";
        // Sixteen in one ring: six guard it, the least as bits.
        String ring = "lane 0 1;lane 1 2;lane 2 3;lane 3 4;lane 4 5;lane 5 6;lane 6 7;lane 7 8;lane 8 9;lane 9 10;lane 10 11;lane 11 12";
        BarrelNight x = Check.told(four + ";" + four, four + ";" + four, ring, "lane 12 13;lane 13 14;lane 14 15;lane 15 0",
                heavy + "0 1 2 3 4 5 6 7 8 9 10 11 12 13 14 15");
        Check.due("all in danger", x.sparks(false), 65535);
        int least = x.sparks(true);
        Check.due("six", Integer.bitCount(least), 6);
        Check.due("the least", least, leastOfRing());
        BarrelNight y = Check.told(four + ";" + four, four + ";" + four,
                heavy + "0;" + heavy + "5;" + heavy + "9;" + heavy + "15");
        Check.due("each alone", y.sparks(true), 1 << 0 | 1 << 5 | 1 << 9 | 1 << 15);
    }

    private static int leastOfRing() {
        int best = 65535;
        for (int set = 0; set < 65536; set++) {
            int guarded = (set | set << 1 | set >> 1 | set << 15 | set >> 15) & 65535;
            if (guarded == 65535 && Integer.bitCount(set) < Integer.bitCount(best)) {
                best = set;
            }
        }
        return best;
    }

    private static void let() {
        BarrelNight x = Check.told("yard 10 4 wall 0 door 9;yard 20 20 wall 0 door 0;yard 30 3 wall 0 door 0;"
                + "yard 40 0 wall 0 door 0;lane 0 1;lane 1 2;lane 2 3;shut 2");
        Check.due("none", x.let(0), 0);
        Check.due("through a full one", x.let(1), 33);
        Check.due("by a full one", x.let(2), 33);
        Check.due("by 3", x.let(8), 40);
        Check.due("by 0 and 3", x.let(9), 73);
        Check.due("by all", x.let(-1), 73);
        Check.due("by none that are", x.let(~15), 0);
        Check.due("nothing comes", x.count(7), 27);
    }

    private static void span() {
        BarrelNight x = Check.told("yard 300 4 wall 0 door 0;yard 20 20 wall 0 door 0;yard 3 3 wall 0 door 0");
        dueSpan(x, 0, 323);
        dueSpan(x, 300, 323, 97, 1, 44);
        dueSpan(x, 5, 308, 98, 0, 5);
        dueSpan(x, 7, 7, 99, 0, 2, 97, 0, 0, 98, 0, 5);
        dueSpan(x, 0, 303, 98, 0, 0);
        Integer wrong = null;
        dueSpan(x, wrong, wrong, 97, 1, 45);
        dueSpan(x, wrong, wrong, 100, 0, 0);
        dueSpan(x, wrong, wrong, 96, 0, 0);
        dueSpan(x, wrong, wrong, 0, 0, 0);
        dueSpan(x, wrong, wrong, 255, 0, 0);
        dueSpan(x, wrong, wrong, 98, 0, 5, 98, 0, 5);
        dueSpan(x, wrong, wrong, 98, 0, 5, 99, 0, 4);
        dueSpan(x, wrong, wrong, 97);
        dueSpan(x, wrong, wrong, 97, 0);
        dueSpan(x, wrong, wrong, 97, 0, 0, 98);
        Check.due("no text was read", x.fault(), -1);
    }

    private static void dueSpan(BarrelNight x, Integer least, Integer most, int... bytes) {
        Object wrong = "IllegalArgumentException";
        Check.feed(x, bytes);
        Check.due("least", Check.of(() -> x.span(false)), least == null ? wrong : least);
        Check.due("used up", x.end(1), false);
        Check.feed(x, bytes);
        Check.due("most", Check.of(() -> x.span(true)), most == null ? wrong : most);
        Check.due("used up", x.end(1), false);
    }
}
