import java.util.ArrayDeque;
import java.util.ArrayList;
import java.util.Arrays;
import java.util.Deque;
import java.util.HashSet;
import java.util.List;
import java.util.NoSuchElementException;
import java.util.Set;
import java.util.TreeMap;

/**
 * The document once more, by lists, trees and trying everything: slow, but so plain that it can be read beside the
 * document. RandomRunsTest holds the class against it.
 */
final class PlainNight {
    private static final class Yard {
        int holds, people, wall, door, inside, caught;
        boolean thatch;

        Yard copy() {
            Yard y = new Yard();
            y.holds = holds; y.people = people; y.wall = wall; y.door = door;
            y.inside = inside; y.caught = caught; y.thatch = thatch;
            return y;
        }
    }

    private static final class Lane {
        int a, b;
        boolean open = true;

        Lane copy() {
            Lane l = new Lane();
            l.a = a; l.b = b; l.open = open;
            return l;
        }
    }

    private static final class Barrel {
        int start, pace, tar, weight;
        List<Integer> way = new ArrayList<>();

        Barrel copy() {
            Barrel b = new Barrel();
            b.start = start; b.pace = pace; b.tar = tar; b.weight = weight; b.way = new ArrayList<>(way);
            return b;
        }

        boolean on(int t) {
            return start <= t && Math.floorDiv(t - start, pace) < way.size();
        }

        int at(int t) {
            return on(t) ? way.get((t - start) / pace) : -1;
        }

        Set<Integer> heats(int t) {
            Set<Integer> all = new HashSet<>();
            if (on(t)) {
                int k = (t - start) / pace;
                all.add(way.get(k));
                if (k + 1 < way.size()) {
                    all.add(way.get(k + 1));
                }
            }
            return all;
        }
    }

    private record Bearer(int strong, int family) {
    }

    private interface Value {
        int of(State s, int yard, Barrel barrel);
    }

    private interface Truth {
        boolean of(State s, int yard, Barrel barrel);
    }

    private record Line(int n, Truth truth) {
    }

    private static final class State {
        List<Yard> yards = new ArrayList<>();
        List<Lane> lanes = new ArrayList<>();
        List<Barrel> barrels = new ArrayList<>();
        List<Bearer> bearers = new ArrayList<>();
        List<Line> law = null;
        int texts, second, wind, push = 1;

        State copy() {
            State s = new State();
            yards.forEach(y -> s.yards.add(y.copy()));
            lanes.forEach(l -> s.lanes.add(l.copy()));
            barrels.forEach(b -> s.barrels.add(b.copy()));
            s.bearers.addAll(bearers);
            s.law = law;
            s.texts = texts; s.second = second; s.wind = wind; s.push = push;
            return s;
        }

        Set<Integer> heated() {
            Set<Integer> all = new HashSet<>();
            barrels.forEach(b -> all.addAll(b.heats(second)));
            return all;
        }

        int back(int yard, Barrel barrel) {
            if (law == null) {
                return 10;
            }
            return law.stream().filter(l -> l.truth.of(this, yard, barrel)).mapToInt(Line::n).sum();
        }

        boolean beside(int a, int b, boolean any) {
            return lanes.stream().anyMatch(l -> (any || l.open) && (l.a == a && l.b == b || l.a == b && l.b == a));
        }

        int pass() {
            int sum = 0;
            for (Barrel b : barrels) {
                if (b.on(second) && (second - b.start) % b.pace == 0) {
                    Yard y = yards.get(b.at(second));
                    int n = Math.max(0, y.people - y.wall);
                    y.caught += n;
                    sum += n;
                }
            }
            Set<Integer> heated = heated();
            for (int i = 0; i < yards.size(); i++) {
                if (!heated.contains(i)) {
                    continue;
                }
                int at = i;
                Barrel least = barrels.stream().filter(b -> b.heats(second).contains(at)).findFirst().orElseThrow();
                int most = back(i, least);
                Yard y = yards.get(i);
                for (int n = 0; n < most && y.people > 0 && leave(i, heated); n++) {
                    y.people--;
                }
            }
            for (int i = 0; i < yards.size(); i++) {
                Yard y = yards.get(i);
                while (!heated.contains(i) && y.inside > 0 && y.people < y.holds) {
                    y.inside--;
                    y.people++;
                }
            }
            for (Lane l : lanes) {
                if (l.open && !heated.contains(l.a) && !heated.contains(l.b)) {
                    Yard more = yards.get(yards.get(l.a).people >= yards.get(l.b).people ? l.a : l.b);
                    Yard less = yards.get(more == yards.get(l.a) ? l.b : l.a);
                    int half = (more.people - less.people) / 2;
                    for (int n = 0; n < push && n < half && less.people < less.holds;) {
                        more.people--;
                        less.people++;
                        n++;
                    }
                }
            }
            second++;
            return sum;
        }

        /** One of a heated yard finds a place. */
        boolean leave(int from, Set<Integer> heated) {
            Yard y = yards.get(from);
            if (y.inside < y.door) {
                y.inside++;
                return true;
            }
            for (int to = 0; to < yards.size(); to++) {
                Yard other = yards.get(to);
                if (!heated.contains(to) && beside(from, to, false) && other.people < other.holds) {
                    other.people++;
                    return true;
                }
            }
            return false;
        }

        int trial(int n) {
            State s = copy();
            int sum = 0;
            for (int i = 0; i < n; i++) {
                sum += s.pass();
            }
            return sum;
        }
    }

    private static final class WrongAt extends RuntimeException {
        private static final long serialVersionUID = 1;
        final int at;

        WrongAt(int at) {
            this.at = at;
        }
    }

    /** Things of a text: each its sign or letters, and where it begins. */
    private static final class Things {
        final List<String> things = new ArrayList<>();
        final List<Integer> begins = new ArrayList<>();
        int next = 0;

        Things(String text) {
            java.util.regex.Matcher m = java.util.regex.Pattern.compile("[a-z]+|[0-9]+|[^ ]", java.util.regex.Pattern.DOTALL)
                    .matcher(text);
            while (m.find()) {
                things.add(m.group());
                begins.add(m.start());
            }
            things.add("");
            begins.add(text.length());
        }

        String see() {
            return things.get(next);
        }

        WrongAt wrong() {
            return new WrongAt(begins.get(next));
        }

        boolean maybe(String thing) {
            if (see().equals(thing)) {
                next++;
                return true;
            }
            return false;
        }

        void must(String thing) {
            if (!maybe(thing)) {
                throw wrong();
            }
        }

        boolean isNumber() {
            return see().matches("[0-9]+");
        }

        int number(int least, int most) {
            if (!see().matches("[0-9]{1,3}") || Integer.parseInt(see()) < least || Integer.parseInt(see()) > most) {
                throw wrong();
            }
            return Integer.parseInt(things.get(next++));
        }
    }

    private final List<Integer> tape = new ArrayList<>();
    private State s = new State();
    private State image = null;
    private final Deque<State> undos = new ArrayDeque<>();
    private int fault = -1;

    int feed(int a, int b, int c, int d, int e) {
        if (tape.size() + 20 > 400) {
            return -1;
        }
        for (int n : new int[] {a, b, c, d, e}) {
            for (byte one : java.nio.ByteBuffer.allocate(4).putInt(n).array()) {
                tape.add(one & 255);
            }
        }
        return tape.size();
    }

    boolean end(int n) {
        if (n < 0 || n > tape.size()) {
            return false;
        }
        tape.subList(n, tape.size()).clear();
        return true;
    }

    private String text() {
        StringBuilder all = new StringBuilder();
        tape.forEach(b -> all.append((char) (int) b));
        tape.clear();
        return all.toString();
    }

    int town() {
        State draft = s.copy();
        try {
            readTown(new Things(text()), draft);
            fault = -1;
        } catch (WrongAt e) {
            fault = e.at;
        }
        if (fault >= 0) {
            throw new IllegalArgumentException();
        }
        if (s.texts == 10) {
            throw new UnsupportedOperationException();
        }
        draft.texts++;
        s = draft;
        undos.clear();
        return s.texts;
    }

    private static void readTown(Things t, State d) {
        if (t.see().isEmpty()) {
            return;
        }
        int lines = 0;
        do {
            if (++lines > 14) {
                throw t.wrong();
            }
            readTownLine(t, d);
        } while (t.maybe(";"));
        t.must("");
    }

    private static void readTownLine(Things t, State d) {
        int full = t.see().equals("yard") ? 16 - d.yards.size() : t.see().equals("lane") ? 24 - d.lanes.size()
                : t.see().equals("barrel") ? 6 - d.barrels.size() : t.see().equals("bearer") ? 9 - d.bearers.size() : 1;
        if (full <= 0) {
            throw t.wrong();
        }
        if (t.maybe("yard")) {
            Yard y = new Yard();
            y.holds = t.number(0, 999);
            y.people = t.number(0, y.holds);
            t.must("wall");
            y.wall = t.number(0, 99);
            t.must("door");
            y.door = t.number(0, 99);
            y.thatch = t.maybe("thatch");
            d.yards.add(y);
        } else if (t.maybe("lane")) {
            Lane l = new Lane();
            l.a = t.number(0, d.yards.size() - 1);
            if (t.see().matches("[0-9]{1,3}") && Integer.parseInt(t.see()) == l.a) {
                throw t.wrong();
            }
            l.b = t.number(0, d.yards.size() - 1);
            d.lanes.add(l);
        } else if (t.maybe("barrel")) {
            d.barrels.add(readBarrel(t, d));
        } else if (t.maybe("bearer")) {
            int strong = t.number(1, 99);
            d.bearers.add(new Bearer(strong, t.number(0, 9)));
        } else if (t.maybe("wind")) {
            d.wind = t.number(0, 9);
        } else if (t.maybe("push")) {
            d.push = t.number(0, 9);
        } else if (t.maybe("shut")) {
            d.lanes.get(t.number(0, d.lanes.size() - 1)).open = false;
        } else {
            t.must("open");
            d.lanes.get(t.number(0, d.lanes.size() - 1)).open = true;
        }
    }

    private static Barrel readBarrel(Things t, State d) {
        Barrel b = new Barrel();
        t.must("at");
        b.start = t.number(0, 999);
        t.must("pace");
        b.pace = t.number(1, 60);
        t.must("tar");
        b.tar = t.number(1, 99);
        t.must("weight");
        b.weight = t.number(1, 20);
        t.must("way");
        b.way.add(t.number(0, d.yards.size() - 1));
        while (t.isNumber()) {
            WrongAt wrong = t.wrong();
            if (b.way.size() == 16) {
                throw wrong;
            }
            int y = t.number(0, d.yards.size() - 1);
            if (!d.beside(b.way.get(b.way.size() - 1), y, true)) {
                throw wrong;
            }
            b.way.add(y);
        }
        return b;
    }

    int law() {
        List<Line> lines = new ArrayList<>();
        try {
            readLaw(new Things(text()), lines);
            fault = -1;
        } catch (WrongAt e) {
            fault = e.at;
        }
        if (fault >= 0) {
            throw new IllegalArgumentException();
        }
        s.law = lines;
        undos.clear();
        return lines.size();
    }

    private static void readLaw(Things t, List<Line> lines) {
        if (t.see().isEmpty()) {
            return;
        }
        do {
            if (lines.size() == 12) {
                throw t.wrong();
            }
            t.must("back");
            int n = t.number(0, 999);
            Truth truth = t.maybe("if") ? readC(t, 0) : (s, y, b) -> true;
            lines.add(new Line(n, truth));
        } while (t.maybe(";"));
        t.must("");
    }

    private static Truth readC(Things t, int deep) {
        Truth left = readAll(t, deep);
        if (!t.maybe("or")) {
            return left;
        }
        Truth right = readC(t, deep);
        return (s, y, b) -> left.of(s, y, b) || right.of(s, y, b);
    }

    private static Truth readAll(Things t, int deep) {
        Truth left = readAtom(t, deep);
        if (!t.maybe("and")) {
            return left;
        }
        Truth right = readAll(t, deep);
        return (s, y, b) -> left.of(s, y, b) && right.of(s, y, b);
    }

    private static Truth readAtom(Things t, int deep) {
        if (deep == 6 && (t.see().equals("not") || t.see().equals("("))) {
            throw t.wrong();
        }
        if (t.maybe("not")) {
            Truth of = readAtom(t, deep + 1);
            return (s, y, b) -> !of.of(s, y, b);
        }
        if (t.maybe("(")) {
            Truth of = readC(t, deep + 1);
            t.must(")");
            return of;
        }
        if (t.maybe("thatch")) {
            return (s, y, b) -> s.yards.get(y).thatch;
        }
        if (t.maybe("at")) {
            return (s, y, b) -> b.at(s.second) == y;
        }
        Value left = readSum(t);
        if (t.maybe("<")) {
            Value right = readSum(t);
            return (s, y, b) -> left.of(s, y, b) < right.of(s, y, b);
        }
        t.must(">");
        Value right = readSum(t);
        return (s, y, b) -> left.of(s, y, b) > right.of(s, y, b);
    }

    private static Value readSum(Things t) {
        Value left = readPart(t);
        if (!t.maybe("+")) {
            return left;
        }
        Value right = readSum(t);
        return (s, y, b) -> left.of(s, y, b) + right.of(s, y, b);
    }

    private static Value readPart(Things t) {
        if (t.isNumber()) {
            int n = t.number(0, 999);
            return (s, y, b) -> n;
        }
        TreeMap<String, Value> parts = new TreeMap<>();
        parts.put("people", (s, y, b) -> s.yards.get(y).people);
        parts.put("holds", (s, y, b) -> s.yards.get(y).holds);
        parts.put("inside", (s, y, b) -> s.yards.get(y).inside);
        parts.put("yard", (s, y, b) -> y);
        parts.put("weight", (s, y, b) -> b.weight);
        parts.put("wind", (s, y, b) -> s.wind);
        parts.put("second", (s, y, b) -> s.second);
        Value value = parts.get(t.see());
        if (value == null) {
            throw t.wrong();
        }
        t.next++;
        return value;
    }

    int fault() {
        return fault;
    }

    private static void index(int i, List<?> all) {
        if (i < 0 || i >= all.size()) {
            throw new IndexOutOfBoundsException();
        }
    }

    private static void bounds(int n, int least, int most) {
        if (n < least || n > most) {
            throw new IllegalArgumentException();
        }
    }

    private static int pick(int what, int... all) {
        if (what < 0 || what >= all.length) {
            throw new NoSuchElementException();
        }
        return all[what];
    }

    int yard(int yard, int what) {
        index(yard, s.yards);
        Yard y = s.yards.get(yard);
        int bits = 0;
        for (int i = 0; i < s.yards.size(); i++) {
            bits += s.beside(yard, i, false) ? 1 << i : 0;
        }
        return pick(what, y.holds, y.people, y.wall, y.door, y.inside, y.thatch ? 1 : 0, y.caught,
                s.heated().contains(yard) ? 1 : 0, bits);
    }

    int lane(int lane, int what) {
        index(lane, s.lanes);
        Lane l = s.lanes.get(lane);
        return pick(what, l.a, l.b, l.open ? 1 : 0);
    }

    int barrel(int barrel, int what) {
        index(barrel, s.barrels);
        Barrel b = s.barrels.get(barrel);
        int burns = Math.max(0, b.tar * 20 - s.wind * 3 * b.way.size());
        return pick(what, b.start, b.pace, b.tar, b.weight, b.way.size(), b.at(s.second), burns,
                b.pace * b.way.size() <= burns ? 1 : 0);
    }

    int step(int barrel, int k) {
        index(barrel, s.barrels);
        List<Integer> way = s.barrels.get(barrel).way;
        return k >= 0 && k < way.size() ? way.get(k) : -1;
    }

    int bearer(int bearer, boolean family) {
        index(bearer, s.bearers);
        return family ? s.bearers.get(bearer).family : s.bearers.get(bearer).strong;
    }

    private void remember() {
        undos.push(s.copy());
        if (undos.size() > 12) {
            undos.removeLast();
        }
    }

    int seconds(int n) {
        bounds(n, 1, 600);
        remember();
        int sum = 0;
        for (int i = 0; i < n; i++) {
            sum += s.pass();
        }
        return sum;
    }

    boolean put(int lane, boolean open) {
        index(lane, s.lanes);
        remember();
        boolean was = s.lanes.get(lane).open;
        s.lanes.get(lane).open = open;
        return was != open;
    }

    int come(int yard, int people) {
        index(yard, s.yards);
        bounds(people, 1, 999);
        remember();
        Yard y = s.yards.get(yard);
        int n = Math.min(people, y.holds - y.people);
        y.people += n;
        return n;
    }

    int delay(int barrel, int seconds) {
        index(barrel, s.barrels);
        bounds(seconds, 1, 99);
        if (s.barrels.get(barrel).start <= s.second) {
            throw new IllegalStateException();
        }
        remember();
        Barrel b = s.barrels.get(barrel);
        b.start = Math.min(999, b.start + seconds);
        return b.start;
    }

    int door(int yard, int more) {
        index(yard, s.yards);
        bounds(more, 1, 99);
        remember();
        Yard y = s.yards.get(yard);
        y.door = Math.min(99, y.door + more);
        return y.door;
    }

    int trial(int n) {
        bounds(n, 1, 600);
        return s.trial(n);
    }

    int opens(int barrel) {
        index(barrel, s.barrels);
        for (int pace = 1; pace <= 60; pace++) {
            State d = s.copy();
            d.barrels.get(barrel).pace = pace;
            if (d.trial(300) == 0) {
                return pace;
            }
        }
        return -1;
    }

    int mends(int m) {
        bounds(m, 1, 99);
        int best = -1;
        for (int set = 0; set < 256; set++) {
            if (set >= 1 << s.yards.size() || best >= 0 && Integer.bitCount(set) >= Integer.bitCount(best)) {
                continue;
            }
            State d = s.copy();
            for (int i = 0; i < d.yards.size(); i++) {
                if ((set >> i & 1) == 1) {
                    d.yards.get(i).door = Math.min(99, d.yards.get(i).door + m);
                }
            }
            if (d.trial(60) == 0) {
                best = set;
            }
        }
        return best;
    }

    private static int meeting(Barrel a, Barrel b) {
        for (int t = 0; t <= 2000; t++) {
            if (a.on(t) && b.on(t)) {
                boolean changed = a.on(t - 1) && b.on(t - 1) && a.at(t) == b.at(t - 1) && b.at(t) == a.at(t - 1);
                if (a.at(t) == b.at(t) || changed) {
                    return t;
                }
            }
        }
        return -1;
    }

    int meet(int first, int second) {
        index(first, s.barrels);
        index(second, s.barrels);
        if (first == second) {
            throw new IllegalArgumentException();
        }
        return meeting(s.barrels.get(first), s.barrels.get(second));
    }

    int starts(int barrel, int step) {
        index(barrel, s.barrels);
        bounds(step, 1, 60);
        List<Integer> row = firstRow(new ArrayList<>(), step);
        return row == null ? -1 : row.get(barrel);
    }

    private List<Integer> firstRow(List<Integer> row, int step) {
        int n = row.size();
        if (n == s.barrels.size()) {
            return row;
        }
        for (int steps = 0; steps < 4; steps++) {
            boolean fits = true;
            for (int other = 0; other < n && fits; other++) {
                Barrel a = s.barrels.get(n).copy();
                Barrel b = s.barrels.get(other).copy();
                a.start += steps * step;
                b.start += row.get(other) * step;
                fits = meeting(a, b) < 0;
            }
            if (fits) {
                List<Integer> longer = new ArrayList<>(row);
                longer.add(steps);
                List<Integer> all = firstRow(longer, step);
                if (all != null) {
                    return all;
                }
            }
        }
        return null;
    }

    int changes(int barrel, int k) {
        index(barrel, s.barrels);
        if (k < -1) {
            throw new IllegalArgumentException();
        }
        Barrel b = s.barrels.get(barrel);
        for (int size = 1; size <= s.bearers.size(); size++) {
            List<Integer> row = firstBearers(new ArrayList<>(), size, b.way.size(), b.weight);
            if (row != null) {
                return k == -1 ? size : k < size ? row.get(k) : -1;
            }
        }
        return -1;
    }

    private List<Integer> firstBearers(List<Integer> row, int size, int yards, int weight) {
        if (yards <= 0) {
            return row.size() == size ? row : null;
        }
        if (row.size() == size) {
            return null;
        }
        for (int i = 0; i < s.bearers.size(); i++) {
            Bearer one = s.bearers.get(i);
            boolean kin = !row.isEmpty() && s.bearers.get(row.get(row.size() - 1)).family == one.family;
            if (row.contains(i) || kin || one.strong / weight == 0) {
                continue;
            }
            List<Integer> longer = new ArrayList<>(row);
            longer.add(i);
            List<Integer> all = firstBearers(longer, size, yards - one.strong / weight, weight);
            if (all != null) {
                return all;
            }
        }
        return null;
    }

    int last(int barrel, int year) {
        index(barrel, s.barrels);
        bounds(year, 0, 999);
        TreeMap<Integer, Deque<Integer>> families = new TreeMap<>();
        for (int i = 0; i < s.bearers.size(); i++) {
            if (s.bearers.get(i).strong >= s.barrels.get(barrel).weight) {
                families.computeIfAbsent(s.bearers.get(i).family, f -> new ArrayDeque<>()).add(i);
            }
        }
        if (families.isEmpty()) {
            return -1;
        }
        int who = -1;
        List<Deque<Integer>> turns = new ArrayList<>(families.values());
        for (int y = 0; y <= year; y++) {
            Deque<Integer> turn = turns.get(y % turns.size());
            who = turn.removeFirst();
            turn.addLast(who);
        }
        return who;
    }

    private boolean taken(int yard, int t) {
        return s.barrels.stream().anyMatch(b -> b.at(t) == yard);
    }

    int ambulance(int from, int to) {
        index(from, s.yards);
        index(to, s.yards);
        Set<Integer> there = new HashSet<>();
        if (!taken(from, s.second)) {
            there.add(from);
        }
        for (int n = 0; n <= 300; n++) {
            if (there.contains(to)) {
                return n;
            }
            Set<Integer> then = new HashSet<>();
            for (int i = 0; i < s.yards.size(); i++) {
                for (int y : there) {
                    if ((i == y || s.beside(y, i, false)) && !taken(i, s.second + n + 1)) {
                        then.add(i);
                    }
                }
            }
            there = then;
        }
        return -1;
    }

    int keep() {
        int n = s.yards.size();
        if (n == 1) {
            return 0;
        }
        int[][] far = new int[n][n];
        for (int[] row : far) {
            Arrays.fill(row, 1000);
        }
        for (int i = 0; i < n; i++) {
            far[i][i] = 0;
        }
        for (Lane l : s.lanes) {
            if (l.open) {
                far[l.a][l.b] = 1;
                far[l.b][l.a] = 1;
            }
        }
        for (int k = 0; k < n; k++) {
            for (int i = 0; i < n; i++) {
                for (int j = 0; j < n; j++) {
                    far[i][j] = Math.min(far[i][j], far[i][k] + far[k][j]);
                }
            }
        }
        int best = -1;
        int bestFar = 1000;
        for (int a = 0; a < n; a++) {
            for (int b = a + 1; b < n; b++) {
                int worst = 0;
                for (int i = 0; i < n; i++) {
                    worst = Math.max(worst, Math.min(far[a][i], far[b][i]));
                }
                if (worst < bestFar) {
                    bestFar = worst;
                    best = 100 * a + b;
                }
            }
        }
        return best;
    }

    int sparks(boolean buckets) {
        int danger = 0;
        int n = s.yards.size();
        for (int i = 0; i < n; i++) {
            int yard = i;
            boolean near = s.barrels.stream().anyMatch(b -> s.wind + b.weight > 8
                    && b.way.stream().anyMatch(w -> w == yard || s.beside(w, yard, true)));
            danger |= near && s.yards.get(i).thatch ? 1 << i : 0;
        }
        if (!buckets) {
            return danger;
        }
        int[] guards = new int[n];
        for (int i = 0; i < n; i++) {
            for (int j = 0; j < n; j++) {
                guards[i] |= i == j || s.beside(i, j, true) ? 1 << j : 0;
            }
        }
        int best = -1;
        for (int set = 0; set < 1 << n; set++) {
            int guarded = 0;
            for (int i = 0; i < n; i++) {
                guarded |= (set >> i & 1) == 1 ? guards[i] : 0;
            }
            if ((danger & ~guarded) == 0 && (best < 0 || Integer.bitCount(set) < Integer.bitCount(best))) {
                best = set;
            }
        }
        return best;
    }

    int let(int gates) {
        Set<Integer> reached = new HashSet<>();
        for (int i = 0; i < s.yards.size(); i++) {
            if ((gates >> i & 1) == 1) {
                reached.add(i);
            }
        }
        for (int round = 0; round < 16; round++) {
            for (Lane l : s.lanes) {
                if (l.open && (reached.contains(l.a) || reached.contains(l.b))) {
                    reached.add(l.a);
                    reached.add(l.b);
                }
            }
        }
        return reached.stream().mapToInt(i -> s.yards.get(i).holds - s.yards.get(i).people).sum();
    }

    int span(boolean most) {
        List<Integer> bytes = new ArrayList<>(tape);
        tape.clear();
        if (bytes.size() % 3 != 0) {
            throw new IllegalArgumentException();
        }
        TreeMap<Integer, Integer> told = new TreeMap<>();
        for (int i = 0; i < bytes.size(); i += 3) {
            int yard = bytes.get(i) - 97;
            int n = bytes.get(i + 1) * 256 + bytes.get(i + 2);
            if (yard < 0 || yard >= s.yards.size() || told.containsKey(yard) || n > s.yards.get(yard).holds) {
                throw new IllegalArgumentException();
            }
            told.put(yard, n);
        }
        int sum = 0;
        for (int i = 0; i < s.yards.size(); i++) {
            sum += told.getOrDefault(i, most ? s.yards.get(i).holds : 0);
        }
        return sum;
    }

    boolean undo() {
        if (undos.isEmpty()) {
            return false;
        }
        s = undos.pop();
        return true;
    }

    void image() {
        image = s.copy();
    }

    boolean back() {
        if (image == null) {
            return false;
        }
        s = image.copy();
        undos.clear();
        return true;
    }

    int count(int what) {
        int[] all = {s.yards.size(), s.lanes.size(), s.barrels.size(), s.bearers.size(), s.texts,
            s.law == null ? -1 : s.law.size(), s.second, s.yards.stream().mapToInt(y -> y.people).sum(),
            s.yards.stream().mapToInt(y -> y.inside).sum(), s.yards.stream().mapToInt(y -> y.caught).sum(),
            s.wind, s.push, (int) s.barrels.stream().filter(b -> b.on(s.second)).count(), undos.size()};
        return what < 0 || what >= all.length ? -1 : all[what];
    }
}
