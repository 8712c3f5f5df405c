import java.util.ArrayList;
import java.util.List;
import java.util.Random;

/** All promises: runs of up to 512 random calls, each answer held against that of PlainNight. */
public final class RandomRunsTest {
    // What an object answers behind its 512th call is free; a text takes 23 calls at most.
    private static final int CALLS = 512 - 23;

    private final Random random;
    private final BarrelNight x = new BarrelNight();
    private final PlainNight plain = new PlainNight();
    private final int run;
    private int calls;
    private int lanes;
    private int yards;
    private final List<int[]> ends = new ArrayList<>();

    private RandomRunsTest(int run) {
        this.run = run;
        this.random = new Random(run);
    }

    public static void main(String[] args) {
        int runs = args.length > 1 ? Integer.parseInt(args[1]) : 400;
        for (int run = 0; run < runs; run++) {
            new RandomRunsTest(run).play();
        }
        Check.finish();
    }

    private void play() {
        tellTown();
        for (int i = 0; i < CALLS && calls <= CALLS; i++) {
            if (random.nextInt(12) == 0) {
                readSomething();
            } else {
                call();
            }
        }
    }

    private void same(String what, Check.Call one, Check.Call other) {
        calls++;
        Check.due("run " + run + ": " + what, Check.of(one), Check.of(other));
    }

    private int below(int n) {
        return random.nextInt(n);
    }

    /** A number of these bounds, now and then any one. */
    private int wild(int least, int most) {
        return below(80) == 0 ? random.nextInt() : from(least, most);
    }

    private int from(int least, int most) {
        return least + random.nextInt(most - least + 1);
    }

    /** Mostly one that there is. */
    private int one(int what) {
        int n = plain.count(what);
        if (below(80) == 0) {
            return random.nextInt();
        }
        return n == 0 || below(30) == 0 ? from(-1, n) : below(n);
    }

    private void call() {
        switch (below(31)) {
            case 0: { int a = one(0), b = wild(-1, 9); same("yard " + a + " " + b, () -> x.yard(a, b), () -> plain.yard(a, b)); break; }
            case 1: { int a = one(1), b = wild(-1, 3); same("lane " + a + " " + b, () -> x.lane(a, b), () -> plain.lane(a, b)); break; }
            case 2: { int a = one(2), b = wild(-1, 8); same("barrel " + a + " " + b, () -> x.barrel(a, b), () -> plain.barrel(a, b)); break; }
            case 3: { int a = one(2), b = wild(-1, 16); same("step " + a + " " + b, () -> x.step(a, b), () -> plain.step(a, b)); break; }
            case 4: { int a = one(3); boolean b = random.nextBoolean(); same("bearer " + a, () -> x.bearer(a, b), () -> plain.bearer(a, b)); break; }
            case 5: case 6: { int a = below(3) == 0 ? wild(0, 30) : wild(1, 3); same("seconds " + a, () -> x.seconds(a), () -> plain.seconds(a)); break; }
            case 7: { int a = one(1); boolean b = random.nextBoolean(); same("put " + a, () -> x.put(a, b), () -> plain.put(a, b)); break; }
            case 8: { int a = one(0), b = below(20) == 0 ? wild(-1, 1001) : wild(1, 40); same("come " + a + " " + b, () -> x.come(a, b), () -> plain.come(a, b)); break; }
            case 9: { int a = one(2), b = wild(-1, 101); same("delay " + a + " " + b, () -> x.delay(a, b), () -> plain.delay(a, b)); break; }
            case 10: { int a = one(0), b = below(9) == 0 ? wild(-1, 101) : wild(1, 5); same("door " + a + " " + b, () -> x.door(a, b), () -> plain.door(a, b)); break; }
            case 11: { int a = wild(0, 120); same("trial " + a, () -> x.trial(a), () -> plain.trial(a)); break; }
            case 12: if (below(4) == 0) { int a = one(2); same("opens " + a, () -> x.opens(a), () -> plain.opens(a)); } break;
            case 13: if (below(4) == 0) { int a = wild(0, 100); same("mends " + a, () -> x.mends(a), () -> plain.mends(a)); } break;
            case 14: { int a = one(2), b = one(2); same("meet " + a + " " + b, () -> x.meet(a, b), () -> plain.meet(a, b)); break; }
            case 15: if (below(4) == 0) { int a = one(2), b = wild(0, 61); same("starts " + a + " " + b, () -> x.starts(a, b), () -> plain.starts(a, b)); } break;
            case 16: case 17: if (below(2) == 0) { int a = one(2), b = wild(-2, 6); same("changes " + a + " " + b, () -> x.changes(a, b), () -> plain.changes(a, b)); } break;
            case 18: { int a = one(2), b = below(9) == 0 ? wild(-1, 1000) : wild(0, 20); same("last " + a + " " + b, () -> x.last(a, b), () -> plain.last(a, b)); break; }
            case 19: { int a = one(0), b = one(0); same("ambulance " + a + " " + b, () -> x.ambulance(a, b), () -> plain.ambulance(a, b)); break; }
            case 20: same("keep", x::keep, plain::keep); break;
            case 21: same("sparks", () -> x.sparks(false), () -> plain.sparks(false)); break;
            case 22: if (plain.count(0) < 12 || below(5) == 0) { same("buckets", () -> x.sparks(true), () -> plain.sparks(true)); } break;
            case 23: { int a = random.nextInt() >> below(32); same("let " + a, () -> x.let(a), () -> plain.let(a)); break; }
            case 24: span(); break;
            case 25: case 26: same("undo", x::undo, plain::undo); break;
            case 27: if (below(4) == 0) { calls++; x.image(); plain.image(); } break;
            case 28: if (below(4) == 0) { same("back", x::back, plain::back); } break;
            default: { int a = wild(-1, 14); same("count " + a, () -> x.count(a), () -> plain.count(a)); break; }
        }
    }

    private void span() {
        int n = below(4);
        int[] bytes = new int[3 * n + (below(9) == 0 ? 1 : 0)];
        for (int i = 0; i + 2 < bytes.length; i += 3) {
            bytes[i] = 97 + one(0) & 255;
            bytes[i + 1] = below(20) == 0 ? 1 : 0;
            bytes[i + 2] = below(20);
        }
        feed(bytes);
        boolean most = random.nextBoolean();
        same("span", () -> x.span(most), () -> plain.span(most));
    }

    private void feed(int[] bytes) {
        for (int at = 0; at < bytes.length; at += 20) {
            int[] n = new int[5];
            for (int i = 0; i < 20; i++) {
                n[i / 4] = n[i / 4] << 8 | (at + i < bytes.length ? bytes[at + i] : below(256));
            }
            same("feed", () -> x.feed(n[0], n[1], n[2], n[3], n[4]), () -> plain.feed(n[0], n[1], n[2], n[3], n[4]));
        }
        same("end", () -> x.end(bytes.length), () -> plain.end(bytes.length));
    }

    private void feed(String text) {
        int[] bytes = new int[Math.min(400, text.length())];
        for (int i = 0; i < bytes.length; i++) {
            bytes[i] = text.charAt(i);
        }
        feed(bytes);
    }

    private void town(String text) {
        feed(text);
        same("town " + text, x::town, plain::town);
        same("fault of " + text, x::fault, plain::fault);
    }

    private void law(String text) {
        feed(text);
        same("law " + text, x::law, plain::law);
        same("fault of " + text, x::fault, plain::fault);
    }

    private void readSomething() {
        boolean law = random.nextBoolean();
        String text = law ? lawText() : townText(from(0, 4));
        if (below(3) > 0) {
            text = spoilt(text);
        }
        if (law || plain.count(4) >= 10 || below(3) > 0 && !text.isEmpty()) {
            law(law ? text : lawText());
        } else {
            town(text);
        }
    }

    private String spoilt(String text) {
        StringBuilder all = new StringBuilder(text);
        for (int n = from(1, 2); n > 0; n--) {
            int at = below(all.length() + 1);
            if (below(3) == 0 && at < all.length()) {
                all.deleteCharAt(at);
            } else if (below(3) == 0) {
                all.setLength(at);
            } else {
                String[] odd = {" ", "0", "7", "99", "(", ")", ";", "+", "<", ">", "a", " not ", " and ", " or ", " at ", "if", "\t", "\377"};
                all.insert(at, odd[below(odd.length)]);
            }
        }
        return all.toString();
    }

    /** A first town of some size: yards, then lanes, then barrels and bearers. */
    private void tellTown() {
        int want = below(3) == 0 ? from(1, 16) : from(2, 7);
        for (int done = 0; done < want;) {
            StringBuilder text = new StringBuilder();
            int now = Math.min(want - done, 8);
            for (int i = 0; i < now; i++) {
                text.append(i == 0 ? "" : ";").append(yard());
            }
            town(text.toString());
            done += now;
        }
        yards = plain.count(0);
        int laneCount = yards < 2 ? 0 : from(yards - 1, Math.min(24, yards * 2));
        StringBuilder text = new StringBuilder("push " + below(10));
        for (int i = 0; i < laneCount; i++) {
            if (i % 13 == 12) {
                town(text.toString());
                text = new StringBuilder("push " + below(10));
            }
            text.append(";").append(lane(i));
        }
        town(text.toString());
        town(barrels(from(1, 3)));
        if (below(3) == 0) {
            town(barrels(from(1, 3)));
        }
        StringBuilder bearers = new StringBuilder("wind " + below(10));
        int families = from(1, 4);
        for (int i = from(0, 9); i > 0; i--) {
            bearers.append(";bearer ").append(from(1, below(2) == 0 ? 99 : 20)).append(' ').append(below(families));
        }
        town(bearers.toString());
    }

    private String yard() {
        int holds = below(5) == 0 ? from(0, 999) : from(5, 40);
        int people = below(3) == 0 ? 0 : from(0, holds);
        return "yard " + holds + " " + people + " wall " + from(0, below(3) == 0 ? 99 : 9) + " door "
                + (below(2) == 0 ? 0 : from(0, 9)) + (below(2) == 0 ? " thatch" : "");
    }

    private String lane(int i) {
        int a = i + 1 < yards ? i + 1 : below(yards);
        int b = below(i + 1 < yards ? i + 1 : yards);
        if (a == b) {
            b = (a + 1) % yards;
        }
        lanes++;
        ends.add(new int[] {a, b});
        return "lane " + a + " " + b + (below(8) == 0 ? ";shut " + (lanes - 1) : "");
    }

    private String barrels(int n) {
        StringBuilder all = new StringBuilder("wind " + below(10));
        for (int i = 0; i < n; i++) {
            int at = below(6) == 0 ? from(0, 999) : from(0, 20);
            int pace = below(6) == 0 ? from(1, 60) : from(1, 6);
            all.append(";barrel at ").append(at).append(" pace ").append(pace).append(" tar ").append(from(1, 9))
                    .append(" weight ").append(from(1, 20)).append(" way ").append(way());
        }
        return all.toString();
    }

    private String way() {
        int yard = below(yards);
        StringBuilder all = new StringBuilder().append(yard);
        int n = below(5) == 0 ? 16 : from(1, 6);
        for (int i = 1; i < n; i++) {
            List<Integer> next = new ArrayList<>();
            for (int[] lane : ends) {
                if (lane[0] == yard) {
                    next.add(lane[1]);
                } else if (lane[1] == yard) {
                    next.add(lane[0]);
                }
            }
            if (next.isEmpty()) {
                break;
            }
            yard = next.get(below(next.size()));
            all.append(' ').append(yard);
        }
        return all.toString();
    }

    private String townText(int n) {
        StringBuilder all = new StringBuilder();
        for (int i = 0; i < n; i++) {
            String[] some = {"wind " + below(11), "push " + below(11), "shut " + one(1), "open " + one(1), yard(),
                "lane " + one(0) + " " + one(0), "bearer " + from(0, 100) + " " + from(0, 10),
                "barrel at " + from(0, 50) + " pace " + from(0, 9) + " tar " + from(0, 5) + " weight " + from(0, 21)
                    + " way " + one(0) + " " + one(0)};
            all.append(i == 0 ? "" : ";").append(some[below(some.length)]);
        }
        return all.toString();
    }

    private String lawText() {
        StringBuilder all = new StringBuilder();
        int n = below(20) == 0 ? from(11, 13) : from(0, 4);
        for (int i = 0; i < n; i++) {
            all.append(i == 0 ? "" : ";").append("back ").append(from(0, 12));
            if (below(3) > 0 && n < 9) {
                all.append(" if ").append(condition(0));
            }
        }
        return all.toString();
    }

    private String condition(int deep) {
        StringBuilder all = new StringBuilder(atom(deep));
        while (below(3) == 0) {
            all.append(below(2) == 0 ? " and " : " or ").append(atom(deep));
        }
        return all.toString();
    }

    private String atom(int deep) {
        switch (below(6)) {
            case 0: return "not " + (deep > 7 ? "at" : atom(deep + 1));
            case 1: return deep > 7 ? "at" : "(" + condition(deep + 1) + ")";
            case 2: return "thatch";
            case 3: return "at";
            default: return sum() + (below(2) == 0 ? "<" : " > ") + sum();
        }
    }

    private String sum() {
        String[] parts = {"people", "holds", "inside", "yard", "weight", "wind", "second", "" + below(30), "" + below(999)};
        StringBuilder all = new StringBuilder(parts[below(parts.length)]);
        while (below(3) == 0) {
            all.append(" +").append(parts[below(parts.length)]);
        }
        return all.toString();
    }
}
