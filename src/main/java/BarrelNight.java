import java.util.NoSuchElementException;

/**
 * A night on which burning barrels are run through the streets of a town.
 *
 * The words in capitals in the comments are those of the document's Terms.
 */
public final class BarrelNight {
    public static final int NONE = -1;

    private static final int FEED_BYTES = 20;
    private static final int MOST_TEXTS = 10;
    private static final int MOST_SECONDS = 600;
    private static final int MOST_PEOPLE = 999;
    private static final int MOST_START = 999;
    private static final int MOST_YEAR = 999;
    private static final int MOST_DELAY = 99;
    private static final int MOST_DOOR = 99;
    private static final int MOST_PACE = 60;
    private static final int MOST_STEP = 60;
    private static final int OPENS_SECONDS = 300;
    private static final int MENDS_SECONDS = 60;
    private static final int MENDS_YARDS = 8;
    private static final int AMBULANCE_SECONDS = 300;
    private static final int FIRST_CAMERA = 97;
    private static final int CAMERA_BYTES = 3;

    private final Tape tape = new Tape();
    private final Town town = new Town();
    // What must not stay happens in this copy: a trial, a text that may turn out wrong.
    private final Town draft = new Town();
    private final Town kept = new Town();
    private final Memory memory = new Memory();
    private final Timetable timetable = new Timetable();
    private final Relay relay = new Relay();
    private final int[] guards = new int[Yards.MOST];
    private boolean hasImage;
    private int fault = NONE;

    public BarrelNight() {
    }

    public int feed(int a, int b, int c, int d, int e) {
        if (!tape.hasRoom(FEED_BYTES)) {
            return NONE;
        }
        tape.addNumber(a);
        tape.addNumber(b);
        tape.addNumber(c);
        tape.addNumber(d);
        tape.addNumber(e);
        return tape.size;
    }

    public boolean end(int n) {
        if (n < 0 || n > tape.size) {
            return false;
        }
        tape.size = n;
        return true;
    }

    public int town() throws IllegalArgumentException, UnsupportedOperationException {
        draft.copyFrom(town);
        draft.readText(tape);
        endReading();
        if (town.texts >= MOST_TEXTS) {
            throw new UnsupportedOperationException("there are 10 texts");
        }
        draft.texts++;
        town.copyFrom(draft);
        memory.forgetAll();
        return town.texts;
    }

    public int law() throws IllegalArgumentException {
        Law law = new Law(tape.size);
        law.readText(tape);
        endReading();
        town.law = law;
        memory.forgetAll();
        return law.lines;
    }

    public int fault() {
        return fault;
    }

    public int yard(int yard, int what) throws IndexOutOfBoundsException, NoSuchElementException {
        checkYard(yard);
        Yards yards = town.yards;
        switch (what) {
            case 0: return yards.holds[yard];
            case 1: return yards.people[yard];
            case 2: return yards.wall[yard];
            case 3: return yards.door[yard];
            case 4: return yards.inside[yard];
            case 5: return yards.thatch >> yard & 1;
            case 6: return yards.caught[yard];
            case 7: return town.barrels.heatedAt(town.second) >> yard & 1;
            case 8: return town.lanes.around(1 << yard, false) & ~(1 << yard);
            default: throw new NoSuchElementException("a yard has no such thing");
        }
    }

    public int lane(int lane, int what) throws IndexOutOfBoundsException, NoSuchElementException {
        checkLane(lane);
        Lanes lanes = town.lanes;
        switch (what) {
            case 0: return lanes.first[lane];
            case 1: return lanes.second[lane];
            case 2: return lanes.isOpen(lane) ? 1 : 0;
            default: throw new NoSuchElementException("a lane has no such thing");
        }
    }

    public int barrel(int barrel, int what) throws IndexOutOfBoundsException, NoSuchElementException {
        checkBarrel(barrel);
        Barrels barrels = town.barrels;
        switch (what) {
            case 0: return barrels.start[barrel];
            case 1: return barrels.pace[barrel];
            case 2: return barrels.tar[barrel];
            case 3: return barrels.weight[barrel];
            case 4: return barrels.length[barrel];
            case 5: return barrels.yardAt(barrel, town.second);
            case 6: return barrels.burns(barrel, town.wind);
            case 7: return barrels.burnsToItsEnd(barrel, town.wind) ? 1 : 0;
            default: throw new NoSuchElementException("a barrel has no such thing");
        }
    }

    public int step(int barrel, int k) throws IndexOutOfBoundsException {
        checkBarrel(barrel);
        return town.barrels.yardOfWay(barrel, k);
    }

    public int bearer(int bearer, boolean family) throws IndexOutOfBoundsException {
        if (bearer < 0 || bearer >= town.bearers.count) {
            throw new IndexOutOfBoundsException("there is no such bearer");
        }
        return family ? town.bearers.family[bearer] : town.bearers.strong[bearer];
    }

    public int seconds(int n) throws IllegalArgumentException {
        checkBounds(n, 1, MOST_SECONDS);
        memory.remember(town);
        return town.passSeconds(n);
    }

    public boolean put(int lane, boolean open) throws IndexOutOfBoundsException {
        checkLane(lane);
        memory.remember(town);
        return town.lanes.makeOpen(lane, open);
    }

    public int come(int yard, int people) throws IndexOutOfBoundsException, IllegalArgumentException {
        checkYard(yard);
        checkBounds(people, 1, MOST_PEOPLE);
        memory.remember(town);
        int coming = Math.min(people, town.yards.roomIn(yard));
        town.yards.people[yard] += coming;
        return coming;
    }

    public int delay(int barrel, int seconds)
            throws IndexOutOfBoundsException, IllegalArgumentException, IllegalStateException {
        checkBarrel(barrel);
        checkBounds(seconds, 1, MOST_DELAY);
        int[] start = town.barrels.start;
        if (start[barrel] <= town.second) {
            throw new IllegalStateException("its start is not above the second");
        }
        memory.remember(town);
        start[barrel] = Math.min(MOST_START, start[barrel] + seconds);
        return start[barrel];
    }

    public int door(int yard, int more) throws IndexOutOfBoundsException, IllegalArgumentException {
        checkYard(yard);
        checkBounds(more, 1, MOST_DOOR);
        memory.remember(town);
        town.yards.widenDoor(yard, more);
        return town.yards.door[yard];
    }

    public int trial(int n) throws IllegalArgumentException {
        checkBounds(n, 1, MOST_SECONDS);
        draft.copyFrom(town);
        return draft.passSeconds(draft.secondsThatMatter(n));
    }

    public int opens(int barrel) throws IndexOutOfBoundsException {
        checkBarrel(barrel);
        for (int pace = 1; pace <= MOST_PACE; pace++) {
            draft.copyFrom(town);
            draft.barrels.pace[barrel] = pace;
            if (draft.catchesNobody(OPENS_SECONDS)) {
                return pace;
            }
        }
        return NONE;
    }

    public int mends(int m) throws IllegalArgumentException {
        checkBounds(m, 1, MOST_DOOR);
        int choice = Math.min(town.yards.count, MENDS_YARDS);
        int set = 0;
        for (int tried = 0; tried < 1 << choice; tried++) {
            if (isMendedBy(set, m)) {
                return set;
            }
            set = Sets.nextBySize(set, choice);
        }
        return NONE;
    }

    private boolean isMendedBy(int set, int more) {
        draft.copyFrom(town);
        for (int yard = 0; yard < draft.yards.count; yard++) {
            if (Sets.has(set, yard)) {
                draft.yards.widenDoor(yard, more);
            }
        }
        return draft.catchesNobody(MENDS_SECONDS);
    }

    public int meet(int first, int second) throws IndexOutOfBoundsException, IllegalArgumentException {
        checkBarrel(first);
        checkBarrel(second);
        if (first == second) {
            throw new IllegalArgumentException("both are one barrel");
        }
        return town.barrels.meeting(first, 0, second, 0);
    }

    public int starts(int barrel, int step) throws IndexOutOfBoundsException, IllegalArgumentException {
        checkBarrel(barrel);
        checkBounds(step, 1, MOST_STEP);
        return timetable.stepsOf(barrel, town.barrels, step);
    }

    public int changes(int barrel, int k) throws IndexOutOfBoundsException, IllegalArgumentException {
        checkBarrel(barrel);
        if (k < NONE) {
            throw new IllegalArgumentException("there is no such place in the row");
        }
        relay.prepare(town.bearers, town.barrels.weight[barrel], town.barrels.length[barrel]);
        return k == NONE ? relay.fewest : relay.bearerAt(k);
    }

    public int last(int barrel, int year) throws IndexOutOfBoundsException, IllegalArgumentException {
        checkBarrel(barrel);
        checkBounds(year, 0, MOST_YEAR);
        return town.bearers.inTurn(year, town.barrels.weight[barrel]);
    }

    public int ambulance(int from, int to) throws IndexOutOfBoundsException {
        checkYard(from);
        checkYard(to);
        int now = town.second;
        int there = 1 << from & ~town.barrels.yardsTakenAt(now);
        for (int gone = 0; gone <= AMBULANCE_SECONDS && there != 0; gone++) {
            if (Sets.has(there, to)) {
                return gone;
            }
            there = town.lanes.around(there, false) & ~town.barrels.yardsTakenAt(now + gone + 1);
        }
        return NONE;
    }

    public int keep() {
        int yards = town.yards.count;
        if (yards == 1) {
            return 0;
        }
        int best = NONE;
        int bestSteps = yards;
        for (int first = 0; first < yards; first++) {
            for (int second = first + 1; second < yards; second++) {
                int steps = town.lanes.stepsToAll(1 << first | 1 << second, town.yards.allAsBits());
                if (steps != NONE && steps < bestSteps) {
                    best = 100 * first + second;
                    bestSteps = steps;
                }
            }
        }
        return best;
    }

    public int sparks(boolean buckets) {
        int danger = town.yardsInDanger();
        return buckets ? town.lanes.fewestGuards(danger, town.yards.count, guards) : danger;
    }

    public int let(int gates) {
        int reached = town.lanes.allReached(gates & town.yards.allAsBits());
        int room = 0;
        for (int yard = 0; yard < town.yards.count; yard++) {
            if (Sets.has(reached, yard)) {
                room += town.yards.roomIn(yard);
            }
        }
        return room;
    }

    public int span(boolean most) throws IllegalArgumentException {
        int size = tape.size;
        tape.size = 0;
        if (size % CAMERA_BYTES != 0) {
            throw new IllegalArgumentException("the last camera is not told whole");
        }
        int told = 0;
        int sum = 0;
        for (int at = 0; at < size; at += CAMERA_BYTES) {
            int yard = tape.byteAt(at) - FIRST_CAMERA;
            checkCamera(yard, told, tape.pairAt(at + 1));
            told |= 1 << yard;
            sum += tape.pairAt(at + 1);
        }
        return most ? sum + town.yards.holdsOf(~told) : sum;
    }

    private void checkCamera(int yard, int told, int people) {
        if (yard < 0 || yard >= town.yards.count) {
            throw new IllegalArgumentException("there is no such yard");
        }
        if (Sets.has(told, yard)) {
            throw new IllegalArgumentException("a yard is told twice");
        }
        if (people > town.yards.holds[yard]) {
            throw new IllegalArgumentException("more are told than the yard holds");
        }
    }

    public boolean undo() {
        return memory.takeBack(town);
    }

    public void image() {
        kept.copyFrom(town);
        hasImage = true;
    }

    public boolean back() {
        if (!hasImage) {
            return false;
        }
        town.copyFrom(kept);
        memory.forgetAll();
        return true;
    }

    public int count(int what) {
        Yards yards = town.yards;
        switch (what) {
            case 0: return yards.count;
            case 1: return town.lanes.count;
            case 2: return town.barrels.count;
            case 3: return town.bearers.count;
            case 4: return town.texts;
            case 5: return town.law == null ? NONE : town.law.lines;
            case 6: return town.second;
            case 7: return yards.sumOf(yards.people);
            case 8: return yards.sumOf(yards.inside);
            case 9: return yards.sumOf(yards.caught);
            case 10: return town.wind;
            case 11: return town.push;
            case 12: return town.barrels.countOn(town.second);
            case 13: return memory.size;
            default: return NONE;
        }
    }

    /** What ends the reading of a text, right or wrong: the TAPE is used up, and fault() knows of it. */
    private void endReading() {
        fault = tape.wrong;
        tape.size = 0;
        if (fault != NONE) {
            throw new IllegalArgumentException("the text is wrong");
        }
    }

    private void checkYard(int yard) {
        if (yard < 0 || yard >= town.yards.count) {
            throw new IndexOutOfBoundsException("there is no such yard");
        }
    }

    private void checkLane(int lane) {
        if (lane < 0 || lane >= town.lanes.count) {
            throw new IndexOutOfBoundsException("there is no such lane");
        }
    }

    private void checkBarrel(int barrel) {
        if (barrel < 0 || barrel >= town.barrels.count) {
            throw new IndexOutOfBoundsException("there is no such barrel");
        }
    }

    private static void checkBounds(int number, int least, int most) {
        if (number < least || number > most) {
            throw new IllegalArgumentException("the number is out of its bounds");
        }
    }

    /** Sets of small numbers, as bits. */
    private static final class Sets {
        static boolean has(int set, int member) {
            return (set >> member & 1) != 0;
        }

        /** Goes from the empty set through all sets of numbers below a bound: the smaller first, then by their bits. */
        static int nextBySize(int set, int bound) {
            int next = nextOfSameSize(set);
            return next < 1 << bound ? next : leastOfSize(Integer.bitCount(set) + 1);
        }

        private static int leastOfSize(int size) {
            return (1 << size) - 1;
        }

        /** The empty set has none of its size: what comes is the least set of one member. */
        private static int nextOfSameSize(int set) {
            if (set <= 0) {
                return 1;
            }
            int carried = set + (set & -set);
            return carried | (carried ^ set) >>> leastOf(set) + 2;
        }

        /** The least member of a set that has one. */
        static int leastOf(int set) {
            return Integer.bitCount((set & -set) - 1);
        }
    }

    /** All that is told and all that has happened: what is kept, undone, and tried out on a copy. */
    private static final class Town {
        static final int MOST_LINES = 14;
        static final int MOST_WIND = 9;
        static final int MOST_PUSH = 9;
        static final int DANGER = 8;
        static final int BACK_WITHOUT_LAW = 10;

        final Yards yards = new Yards();
        final Lanes lanes = new Lanes();
        final Barrels barrels = new Barrels();
        final Bearers bearers = new Bearers();
        // Null without a text.
        Law law;
        int texts;
        int second;
        int wind;
        int push = 1;

        void copyFrom(Town other) {
            yards.copyFrom(other.yards);
            lanes.copyFrom(other.lanes);
            barrels.copyFrom(other.barrels);
            bearers.copyFrom(other.bearers);
            law = other.law;
            texts = other.texts;
            second = other.second;
            wind = other.wind;
            push = other.push;
        }

        /** What a wrong text leaves is of no use: only a draft may read one. */
        void readText(Tape tape) {
            boolean more = tape.startReading();
            for (int lines = 0; more && lines < MOST_LINES; lines++) {
                readLine(tape);
                more = tape.takeSign(';');
            }
            tape.stopReading(more);
        }

        private void readLine(Tape tape) {
            if (tape.isWord("yard")) {
                yards.readOne(tape);
            } else if (tape.isWord("lane")) {
                lanes.readOne(tape, yards.count);
            } else if (tape.isWord("barrel")) {
                barrels.readOne(tape, yards.count, lanes);
            } else if (tape.isWord("bearer")) {
                bearers.readOne(tape);
            } else if (tape.takeWord("wind")) {
                wind = tape.wantNumber(0, MOST_WIND);
            } else if (tape.takeWord("push")) {
                push = tape.wantNumber(0, MOST_PUSH);
            } else if (tape.takeWord("shut")) {
                lanes.makeOpen(tape.wantNumber(0, lanes.count - 1), false);
            } else if (tape.takeWord("open")) {
                lanes.makeOpen(tape.wantNumber(0, lanes.count - 1), true);
            } else {
                tape.refuse();
            }
        }

        int passSeconds(int n) {
            int caught = 0;
            for (int i = 0; i < n; i++) {
                caught += passSecond();
            }
            return caught;
        }

        boolean catchesNobody(int n) {
            int most = secondsThatMatter(n);
            for (int i = 0; i < most; i++) {
                if (passSecond() > 0) {
                    return false;
                }
            }
            return true;
        }

        /** Behind the last coming of a barrel to a yard nobody can be CAUGHT: a trial need not go on. */
        int secondsThatMatter(int n) {
            return Math.max(0, Math.min(n, barrels.lastComing() + 1 - second));
        }

        private int passSecond() {
            int caught = catchPeople();
            int heated = barrels.heatedAt(second);
            for (int yard = 0; yard < yards.count; yard++) {
                if (Sets.has(heated, yard)) {
                    goBack(yard, heated);
                }
            }
            for (int yard = 0; yard < yards.count; yard++) {
                if (!Sets.has(heated, yard)) {
                    yards.comeOut(yard);
                }
            }
            for (int lane = 0; lane < lanes.count; lane++) {
                if (lanes.isOpen(lane)) {
                    pushAlong(lane, heated);
                }
            }
            second++;
            return caught;
        }

        private int catchPeople() {
            int caught = 0;
            for (int barrel = 0; barrel < barrels.count; barrel++) {
                int yard = barrels.yardComeToAt(barrel, second);
                if (yard != NONE) {
                    caught += yards.catchIn(yard);
                }
            }
            return caught;
        }

        private void goBack(int yard, int heated) {
            int barrel = barrels.leastThatHeats(yard, second);
            if (barrel == NONE) {
                return;
            }
            int most = law == null ? BACK_WITHOUT_LAW : law.backFrom(this, yard, barrel);
            int going = Math.min(most, yards.people[yard]);
            going -= yards.goInside(yard, going);
            int beside = lanes.around(1 << yard, false) & ~heated;
            for (int to = 0; to < yards.count; to++) {
                if (Sets.has(beside, to)) {
                    going -= yards.move(yard, to, going);
                }
            }
        }

        private void pushAlong(int lane, int heated) {
            int one = lanes.first[lane];
            int other = lanes.second[lane];
            if (Sets.has(heated, one) || Sets.has(heated, other)) {
                return;
            }
            int more = yards.people[one] - yards.people[other];
            if (more > 0) {
                yards.move(one, other, Math.min(push, more / 2));
            } else {
                yards.move(other, one, Math.min(push, -more / 2));
            }
        }

        int yardsInDanger() {
            int ways = 0;
            for (int barrel = 0; barrel < barrels.count; barrel++) {
                if (wind + barrels.weight[barrel] > DANGER) {
                    ways |= barrels.wayAsBits(barrel);
                }
            }
            return lanes.around(ways, true) & yards.thatch;
        }
    }

    private static final class Yards {
        static final int MOST = 16;
        static final int MOST_WALL = 99;

        int count;
        int thatch;
        final int[] holds = new int[MOST];
        final int[] people = new int[MOST];
        final int[] wall = new int[MOST];
        final int[] door = new int[MOST];
        final int[] inside = new int[MOST];
        final int[] caught = new int[MOST];

        void copyFrom(Yards other) {
            count = other.count;
            thatch = other.thatch;
            System.arraycopy(other.holds, 0, holds, 0, MOST);
            System.arraycopy(other.people, 0, people, 0, MOST);
            System.arraycopy(other.wall, 0, wall, 0, MOST);
            System.arraycopy(other.door, 0, door, 0, MOST);
            System.arraycopy(other.inside, 0, inside, 0, MOST);
            System.arraycopy(other.caught, 0, caught, 0, MOST);
        }

        void readOne(Tape tape) {
            int yard = count;
            if (yard >= MOST) {
                tape.refuse();
                return;
            }
            tape.wantWord("yard");
            holds[yard] = tape.wantNumber(0, MOST_PEOPLE);
            people[yard] = tape.wantNumber(0, holds[yard]);
            tape.wantWord("wall");
            wall[yard] = tape.wantNumber(0, MOST_WALL);
            tape.wantWord("door");
            door[yard] = tape.wantNumber(0, MOST_DOOR);
            if (tape.takeWord("thatch")) {
                thatch |= 1 << yard;
            }
            count++;
        }

        int allAsBits() {
            return (1 << count) - 1;
        }

        int sumOf(int[] row) {
            int sum = 0;
            for (int yard = 0; yard < count && yard < row.length; yard++) {
                sum += row[yard];
            }
            return sum;
        }

        int holdsOf(int set) {
            int sum = 0;
            for (int yard = 0; yard < count; yard++) {
                if (Sets.has(set, yard)) {
                    sum += holds[yard];
                }
            }
            return sum;
        }

        int roomIn(int yard) {
            return holds[yard] - people[yard];
        }

        void widenDoor(int yard, int more) {
            door[yard] = Math.min(MOST_DOOR, door[yard] + more);
        }

        int catchIn(int yard) {
            int above = Math.max(0, people[yard] - wall[yard]);
            caught[yard] += above;
            return above;
        }

        int goInside(int yard, int most) {
            int going = Math.min(most, door[yard] - inside[yard]);
            people[yard] -= going;
            inside[yard] += going;
            return going;
        }

        void comeOut(int yard) {
            int coming = Math.min(inside[yard], roomIn(yard));
            inside[yard] -= coming;
            people[yard] += coming;
        }

        int move(int from, int to, int most) {
            int going = Math.min(most, roomIn(to));
            people[from] -= going;
            people[to] += going;
            return going;
        }
    }

    private static final class Lanes {
        static final int MOST = 24;

        int count;
        int open;
        final int[] first = new int[MOST];
        final int[] second = new int[MOST];

        void copyFrom(Lanes other) {
            count = other.count;
            open = other.open;
            System.arraycopy(other.first, 0, first, 0, MOST);
            System.arraycopy(other.second, 0, second, 0, MOST);
        }

        void readOne(Tape tape, int yards) {
            int lane = count;
            if (lane >= MOST) {
                tape.refuse();
                return;
            }
            tape.wantWord("lane");
            first[lane] = tape.wantNumber(0, yards - 1);
            if (tape.numberAtHand() == first[lane]) {
                tape.refuse();
            }
            second[lane] = tape.wantNumber(0, yards - 1);
            makeOpen(lane, true);
            count++;
        }

        boolean isOpen(int lane) {
            return Sets.has(open, lane);
        }

        boolean makeOpen(int lane, boolean toOpen) {
            boolean isNew = isOpen(lane) != toOpen;
            open = toOpen ? open | 1 << lane : open & ~(1 << lane);
            return isNew;
        }

        boolean join(int from, int to) {
            for (int lane = 0; lane < count; lane++) {
                boolean isForth = first[lane] == from && second[lane] == to;
                boolean isBack = first[lane] == to && second[lane] == from;
                if (isForth || isBack) {
                    return true;
                }
            }
            return false;
        }

        /** The set, and the yards beside it by open lanes, or by any. */
        int around(int set, boolean shutToo) {
            int all = set;
            for (int lane = 0; lane < count; lane++) {
                if (shutToo || isOpen(lane)) {
                    all |= (set >> first[lane] & 1) << second[lane];
                    all |= (set >> second[lane] & 1) << first[lane];
                }
            }
            return all;
        }

        int allReached(int from) {
            int reached = from;
            for (int steps = 0; steps < Yards.MOST; steps++) {
                reached = around(reached, false);
            }
            return reached;
        }

        /** The steps in which a set grows to all yards; NONE if it never does. */
        int stepsToAll(int from, int all) {
            int reached = from;
            for (int steps = 0; steps < Yards.MOST; steps++) {
                if (reached == all) {
                    return steps;
                }
                reached = around(reached, false);
            }
            return NONE;
        }

        /** The row is for the guards of each yard, which are asked for again and again. */
        int fewestGuards(int danger, int yards, int[] guards) {
            for (int yard = 0; yard < yards && yard < guards.length; yard++) {
                guards[yard] = Sets.has(danger, yard) ? around(1 << yard, true) : 0;
            }
            int set = 0;
            for (int tried = 0; tried < 1 << yards; tried++) {
                if (meetsAll(set, guards, yards)) {
                    return set;
                }
                set = Sets.nextBySize(set, yards);
            }
            return NONE;
        }

        private static boolean meetsAll(int set, int[] guards, int yards) {
            for (int yard = 0; yard < yards && yard < guards.length; yard++) {
                if (guards[yard] != 0 && (guards[yard] & set) == 0) {
                    return false;
                }
            }
            return true;
        }
    }

    private static final class Barrels {
        static final int MOST = 6;
        static final int MOST_WAY = 16;
        static final int MOST_TAR = 99;
        static final int MOST_WEIGHT = 20;
        static final int LAST_MEETING = 2000;

        int count;
        final int[] start = new int[MOST];
        final int[] pace = new int[MOST];
        final int[] tar = new int[MOST];
        final int[] weight = new int[MOST];
        final int[] length = new int[MOST];
        // The ways one behind another, MOST_WAY places each.
        final int[] way = new int[MOST * MOST_WAY];

        void copyFrom(Barrels other) {
            count = other.count;
            System.arraycopy(other.start, 0, start, 0, MOST);
            System.arraycopy(other.pace, 0, pace, 0, MOST);
            System.arraycopy(other.tar, 0, tar, 0, MOST);
            System.arraycopy(other.weight, 0, weight, 0, MOST);
            System.arraycopy(other.length, 0, length, 0, MOST);
            System.arraycopy(other.way, 0, way, 0, MOST * MOST_WAY);
        }

        void readOne(Tape tape, int yards, Lanes lanes) {
            int barrel = count;
            if (barrel >= MOST) {
                tape.refuse();
                return;
            }
            tape.wantWord("barrel");
            tape.wantWord("at");
            start[barrel] = tape.wantNumber(0, MOST_START);
            tape.wantWord("pace");
            pace[barrel] = tape.wantNumber(1, MOST_PACE);
            tape.wantWord("tar");
            tar[barrel] = tape.wantNumber(1, MOST_TAR);
            tape.wantWord("weight");
            weight[barrel] = tape.wantNumber(1, MOST_WEIGHT);
            tape.wantWord("way");
            length[barrel] = 0;
            addToWay(barrel, tape.wantNumber(0, yards - 1));
            // A number behind the last place is left at hand, and refused there as what cannot stand behind a line.
            for (int k = 1; k < MOST_WAY && tape.isNumber(); k++) {
                if (!lanes.join(yardOfWay(barrel, k - 1), tape.numberAtHand())) {
                    tape.refuse();
                }
                addToWay(barrel, tape.wantNumber(0, yards - 1));
            }
            count++;
        }

        private void addToWay(int barrel, int yard) {
            if (length[barrel] < MOST_WAY) {
                way[barrel * MOST_WAY + length[barrel]] = yard;
                length[barrel]++;
            }
        }

        int yardOfWay(int barrel, int k) {
            return k >= 0 && k < length[barrel] ? way[barrel * MOST_WAY + k] : NONE;
        }

        /** Which place of its way a barrel has so many seconds behind its start; NONE if it is not ON. */
        private int placeAfter(int barrel, int gone) {
            if (gone < 0 || pace[barrel] < 1) {
                return NONE;
            }
            int place = gone / pace[barrel];
            return place < length[barrel] ? place : NONE;
        }

        int yardAt(int barrel, int second) {
            return yardOfWay(barrel, placeAfter(barrel, second - start[barrel]));
        }

        /** The yard to which a barrel has come in just this second; NONE without one. */
        int yardComeToAt(int barrel, int second) {
            int gone = second - start[barrel];
            boolean isComing = pace[barrel] > 0 && gone % pace[barrel] == 0;
            return isComing ? yardOfWay(barrel, placeAfter(barrel, gone)) : NONE;
        }

        int lastComing() {
            int latest = NONE;
            for (int barrel = 0; barrel < count; barrel++) {
                latest = Math.max(latest, start[barrel] + (length[barrel] - 1) * pace[barrel]);
            }
            return latest;
        }

        int countOn(int second) {
            int on = 0;
            for (int barrel = 0; barrel < count; barrel++) {
                if (yardAt(barrel, second) != NONE) {
                    on++;
                }
            }
            return on;
        }

        int yardsTakenAt(int second) {
            int taken = 0;
            for (int barrel = 0; barrel < count; barrel++) {
                int yard = yardAt(barrel, second);
                if (yard != NONE) {
                    taken |= 1 << yard;
                }
            }
            return taken;
        }

        int heatedAt(int second) {
            int heated = 0;
            for (int barrel = 0; barrel < count; barrel++) {
                heated |= heatedBy(barrel, second);
            }
            return heated;
        }

        private int heatedBy(int barrel, int second) {
            int place = placeAfter(barrel, second - start[barrel]);
            if (place == NONE) {
                return 0;
            }
            int next = yardOfWay(barrel, place + 1);
            return 1 << yardOfWay(barrel, place) | (next == NONE ? 0 : 1 << next);
        }

        int leastThatHeats(int yard, int second) {
            for (int barrel = 0; barrel < count; barrel++) {
                if (Sets.has(heatedBy(barrel, second), yard)) {
                    return barrel;
                }
            }
            return NONE;
        }

        int wayAsBits(int barrel) {
            int set = 0;
            for (int k = 0; k < length[barrel]; k++) {
                set |= 1 << yardOfWay(barrel, k);
            }
            return set;
        }

        int burns(int barrel, int wind) {
            return Math.max(0, tar[barrel] * 20 - wind * 3 * length[barrel]);
        }

        boolean burnsToItsEnd(int barrel, int wind) {
            return pace[barrel] * length[barrel] <= burns(barrel, wind);
        }

        /** The first SECOND at which two barrels MEET, each put off by so many seconds; NONE without one. */
        int meeting(int one, int oneLater, int other, int otherLater) {
            int oneStart = start[one] + oneLater;
            int otherStart = start[other] + otherLater;
            int oneEnd = oneStart + pace[one] * length[one];
            int otherEnd = otherStart + pace[other] * length[other];
            int end = Math.min(LAST_MEETING + 1, Math.min(oneEnd, otherEnd));
            int oneWas = NONE;
            int otherWas = NONE;
            for (int second = Math.max(oneStart, otherStart); second < end; second++) {
                int oneIs = yardOfWay(one, placeAfter(one, second - oneStart));
                int otherIs = yardOfWay(other, placeAfter(other, second - otherStart));
                if (oneIs == otherIs || oneIs == otherWas && otherIs == oneWas) {
                    return second;
                }
                oneWas = oneIs;
                otherWas = otherIs;
            }
            return NONE;
        }
    }

    /** How far the barrels are put off so that no two MEET. */
    private static final class Timetable {
        static final int CHOICES = 4;

        // A choice is a barrel and its steps: of each choice, those of lesser barrels that it cannot stand with.
        private final int[] clashes = new int[Barrels.MOST * CHOICES];

        int stepsOf(int barrel, Barrels barrels, int step) {
            for (int later = 1; later < barrels.count; later++) {
                for (int steps = 0; steps < CHOICES; steps++) {
                    clashes[later * CHOICES + steps] = clashesOf(later, steps, barrels, step);
                }
            }
            int chosen = firstChoices(0, 0, barrels.count);
            return chosen == NONE ? NONE : stepsIn(chosen, barrel);
        }

        private static int clashesOf(int barrel, int steps, Barrels barrels, int step) {
            int set = 0;
            for (int choice = 0; choice < barrel * CHOICES; choice++) {
                int other = choice / CHOICES;
                int otherSteps = choice % CHOICES;
                if (barrels.meeting(barrel, steps * step, other, otherSteps * step) != NONE) {
                    set |= 1 << choice;
                }
            }
            return set;
        }

        /** Those made, and behind them the first choices of all further barrels that stand together; or NONE. */
        private int firstChoices(int barrel, int made, int barrels) {
            if (barrel >= barrels || barrel >= Barrels.MOST) {
                return made;
            }
            for (int steps = 0; steps < CHOICES; steps++) {
                int choice = barrel * CHOICES + steps;
                if ((clashes[choice] & made) == 0) {
                    int all = firstChoices(barrel + 1, made | 1 << choice, barrels);
                    if (all != NONE) {
                        return all;
                    }
                }
            }
            return NONE;
        }

        private static int stepsIn(int chosen, int barrel) {
            return Sets.leastOf(chosen >> barrel * CHOICES);
        }
    }

    private static final class Bearers {
        static final int MOST = 9;
        static final int MOST_STRONG = 99;
        static final int FAMILIES = 10;

        int count;
        final int[] strong = new int[MOST];
        final int[] family = new int[MOST];

        void copyFrom(Bearers other) {
            count = other.count;
            System.arraycopy(other.strong, 0, strong, 0, MOST);
            System.arraycopy(other.family, 0, family, 0, MOST);
        }

        void readOne(Tape tape) {
            int bearer = count;
            if (bearer >= MOST) {
                tape.refuse();
                return;
            }
            tape.wantWord("bearer");
            strong[bearer] = tape.wantNumber(1, MOST_STRONG);
            family[bearer] = tape.wantNumber(0, FAMILIES - 1);
            count++;
        }

        int run(int bearer, int weight) {
            return weight < 1 ? 0 : strong[bearer] / weight;
        }

        int ofFamily(int which) {
            int set = 0;
            for (int bearer = 0; bearer < count; bearer++) {
                if (family[bearer] == which) {
                    set |= 1 << bearer;
                }
            }
            return set;
        }

        private int thatCanCarry(int weight) {
            int set = 0;
            for (int bearer = 0; bearer < count; bearer++) {
                if (run(bearer, weight) > 0) {
                    set |= 1 << bearer;
                }
            }
            return set;
        }

        int inTurn(int year, int weight) {
            int able = thatCanCarry(weight);
            int families = 0;
            for (int bearer = 0; bearer < count; bearer++) {
                if (Sets.has(able, bearer)) {
                    families |= 1 << family[bearer];
                }
            }
            int turns = Integer.bitCount(families);
            if (turns == 0) {
                return NONE;
            }
            int kin = able & ofFamily(memberOf(families, year % turns));
            int size = Integer.bitCount(kin);
            return size == 0 ? NONE : memberOf(kin, year / turns % size);
        }

        /** The k-th member of a set, from 0 on. */
        private static int memberOf(int set, int k) {
            int rest = set;
            for (int i = 0; i < k; i++) {
                rest &= rest - 1;
            }
            return rest == 0 ? NONE : Sets.leastOf(rest);
        }
    }

    /**
     * The fewest bearers along a way. No fewer than the fewest ever come to the end, so a row of just these is any
     * order of a set of bearers who together carry far enough, no two kin behind one another.
     */
    private static final class Relay {
        static final int SETS = 1 << Bearers.MOST;

        int fewest;
        private int sets;
        private int way;
        // Of each set of bearers, how far it carries together.
        private final int[] carries = new int[SETS];
        // Of each set, those who can be first in an order of it.
        private final int[] openers = new int[SETS];
        // Of each bearer, all of the same family.
        private final int[] kin = new int[Bearers.MOST];

        void prepare(Bearers bearers, int weight, int length) {
            sets = 1 << bearers.count;
            way = length;
            fewest = NONE;
            for (int bearer = 0; bearer < bearers.count; bearer++) {
                kin[bearer] = bearers.ofFamily(bearers.family[bearer]);
            }
            for (int set = 1; set < sets; set++) {
                int lowest = Sets.leastOf(set);
                carries[set] = carries[set & set - 1] + bearers.run(lowest, weight);
                openers[set] = openersOf(set, bearers, weight);
                int size = Integer.bitCount(set);
                if (carries[set] >= way && openers[set] != 0 && (fewest == NONE || size < fewest)) {
                    fewest = size;
                }
            }
        }

        /** Who cannot carry one yard opens nothing, and so is in no order at all. */
        private int openersOf(int set, Bearers bearers, int weight) {
            int able = 0;
            for (int bearer = 0; bearer < bearers.count; bearer++) {
                if (Sets.has(set, bearer) && bearers.run(bearer, weight) > 0) {
                    int rest = set & ~(1 << bearer);
                    if (rest == 0 || (openers[rest] & ~kin[bearer]) != 0) {
                        able |= 1 << bearer;
                    }
                }
            }
            return able;
        }

        int bearerAt(int k) {
            if (k >= fewest) {
                return NONE;
            }
            int used = 0;
            int lastKin = 0;
            int bearer = NONE;
            for (int place = 0; place <= k; place++) {
                bearer = leastNext(used, lastKin);
                if (bearer == NONE) {
                    return NONE;
                }
                used |= 1 << bearer;
                lastKin = kin[bearer];
            }
            return bearer;
        }

        /** The least bearer who can follow those used, so that the fewest can still carry to the end. */
        private int leastNext(int used, int lastKin) {
            int left = fewest - Integer.bitCount(used);
            int fit = 0;
            for (int set = 1; set < sets; set++) {
                if ((set & used) == 0 && Integer.bitCount(set) == left && carries[set | used] >= way) {
                    fit |= openers[set] & ~lastKin;
                }
            }
            return fit == 0 ? NONE : Sets.leastOf(fit);
        }
    }

    /** The latest acts: of each, all as it was ahead of it. */
    private static final class Memory {
        static final int MOST = 12;

        int size;
        private int next;
        private final Town[] rows = new Town[MOST];

        Memory() {
            for (int i = 0; i < MOST; i++) {
                rows[i] = new Town();
            }
        }

        void forgetAll() {
            size = 0;
        }

        void remember(Town town) {
            rows[next].copyFrom(town);
            next = (next + 1) % MOST;
            size = Math.min(MOST, size + 1);
        }

        boolean takeBack(Town town) {
            if (size == 0) {
                return false;
            }
            next = (next + MOST - 1) % MOST;
            size--;
            town.copyFrom(rows[next]);
            return true;
        }
    }

    /** The bytes that were fed, and the reading of the things in them, one thing at hand at a time. */
    private static final class Tape {
        static final int MOST = 400;
        static final int MOST_DIGITS = 3;

        private static final int END = 0;
        private static final int WORD = 1;
        private static final int NUMBER = 2;
        private static final int SIGN = 3;
        // Behind a wrong thing nothing is at hand any more: so the first wrong byte stays, and all reading ends.
        private static final int REFUSED = 4;

        int size;
        int wrong = NONE;
        private final int[] bytes = new int[MOST];
        private int kind;
        private int begin;
        private int behind;

        boolean hasRoom(int more) {
            return size + more <= MOST;
        }

        void addNumber(int number) {
            for (int shift = 24; shift >= 0 && size < MOST; shift -= 8) {
                bytes[size] = number >> shift & 255;
                size++;
            }
        }

        int byteAt(int at) {
            return at >= 0 && at < MOST ? bytes[at] : 0;
        }

        int pairAt(int at) {
            return byteAt(at) << 8 | byteAt(at + 1);
        }

        /** Whether there is anything in the text. */
        boolean startReading() {
            wrong = NONE;
            kind = END;
            behind = 0;
            advance();
            return kind != END;
        }

        /** Nothing can stand behind the last line, and no line more than there may be. */
        void stopReading(boolean lineTooMany) {
            if (lineTooMany || kind != END) {
                refuse();
            }
        }

        void advance() {
            if (kind == REFUSED) {
                return;
            }
            begin = behind;
            while (begin < size && bytes[begin] == ' ') {
                begin++;
            }
            behind = begin;
            if (begin >= size) {
                kind = END;
                return;
            }
            boolean isWord = bytes[begin] >= 'a' && bytes[begin] <= 'z';
            boolean isNumber = bytes[begin] >= '0' && bytes[begin] <= '9';
            kind = isWord ? WORD : isNumber ? NUMBER : SIGN;
            int least = isWord ? 'a' : '0';
            int most = isWord ? 'z' : '9';
            behind++;
            while (kind != SIGN && behind < size && bytes[behind] >= least && bytes[behind] <= most) {
                behind++;
            }
        }

        void refuse() {
            if (kind != REFUSED) {
                wrong = begin;
                kind = REFUSED;
            }
        }

        boolean isNumber() {
            return kind == NUMBER;
        }

        boolean isSign(char sign) {
            return kind == SIGN && bytes[begin] == sign;
        }

        boolean isWord(String word) {
            if (kind != WORD || behind - begin != word.length()) {
                return false;
            }
            for (int at = begin; at < behind; at++) {
                if (bytes[at] != word.charAt(at - begin)) {
                    return false;
                }
            }
            return true;
        }

        boolean takeSign(char sign) {
            boolean isThere = isSign(sign);
            if (isThere) {
                advance();
            }
            return isThere;
        }

        boolean takeWord(String word) {
            boolean isThere = isWord(word);
            if (isThere) {
                advance();
            }
            return isThere;
        }

        void wantSign(char sign) {
            if (!takeSign(sign)) {
                refuse();
            }
        }

        void wantWord(String word) {
            if (!takeWord(word)) {
                refuse();
            }
        }

        /** The number at hand; the least one where it is refused, so that it can be used all the same. */
        int wantNumber(int least, int most) {
            int number = numberAtHand();
            if (number < least || number > most) {
                refuse();
                return least;
            }
            advance();
            return number;
        }

        /** NONE if there is no number at hand, or one of too many digits. */
        int numberAtHand() {
            if (kind != NUMBER || behind - begin > MOST_DIGITS) {
                return NONE;
            }
            int number = 0;
            for (int at = begin; at < behind; at++) {
                number = number * 10 + bytes[at] - '0';
            }
            return number;
        }
    }

    /**
     * THE LAW, as steps that are gone through from the first to the last: what stands in a sum or a condition is put
     * ahead of what joins it, so that no step must look ahead.
     */
    private static final class Law {
        static final int MOST_LINES = 12;
        static final int MOST_NUMBER = 999;
        static final int DEEPEST = 6;

        // A step is its number times 16, and one of these.
        private static final int ADD = 0;
        private static final int ADD_PART = 1;
        private static final int TURN = 2;
        private static final int BELOW = 3;
        private static final int ABOVE = 4;
        private static final int THATCH = 5;
        private static final int AT = 6;
        private static final int NOT = 7;
        private static final int AND = 8;
        private static final int OR = 9;
        private static final int GO = 10;
        private static final int GO_IF = 11;

        private static final int PEOPLE = 0;
        private static final int HOLDS = 1;
        private static final int INSIDE = 2;
        private static final int YARD = 3;
        private static final int WEIGHT = 4;
        private static final int WIND = 5;
        private static final int SECOND = 6;

        int lines;
        private int size;
        private final int[] steps;

        /** A text makes fewer steps than it has bytes. */
        Law(int bytes) {
            steps = new int[bytes < 0 ? 0 : bytes];
        }

        private void add(int step, int number) {
            if (size < steps.length) {
                steps[size] = number << 4 | step;
                size++;
            }
        }

        void readText(Tape tape) {
            boolean more = tape.startReading();
            for (lines = 0; more && lines < MOST_LINES; lines++) {
                tape.wantWord("back");
                int number = tape.wantNumber(0, MOST_NUMBER);
                boolean hasCondition = tape.takeWord("if");
                if (hasCondition) {
                    readCondition(tape, 0);
                }
                add(hasCondition ? GO_IF : GO, number);
                more = tape.takeSign(';');
            }
            tape.stopReading(more);
        }

        private void readCondition(Tape tape, int depth) {
            readAtoms(tape, depth);
            for (int i = 0; i < Tape.MOST && tape.takeWord("or"); i++) {
                readAtoms(tape, depth);
                add(OR, 0);
            }
        }

        private void readAtoms(Tape tape, int depth) {
            readAtom(tape, depth);
            for (int i = 0; i < Tape.MOST && tape.takeWord("and"); i++) {
                readAtom(tape, depth);
                add(AND, 0);
            }
        }

        private void readAtom(Tape tape, int depth) {
            boolean goesDeeper = tape.isWord("not") || tape.isSign('(');
            if (goesDeeper && depth >= DEEPEST) {
                tape.refuse();
            } else if (tape.takeWord("not")) {
                readAtom(tape, depth + 1);
                add(NOT, 0);
            } else if (tape.takeSign('(')) {
                readCondition(tape, depth + 1);
                tape.wantSign(')');
            } else if (tape.takeWord("thatch")) {
                add(THATCH, 0);
            } else if (tape.takeWord("at")) {
                add(AT, 0);
            } else {
                readSum(tape);
                boolean isBelow = tape.takeSign('<');
                if (!isBelow) {
                    tape.wantSign('>');
                }
                add(TURN, 0);
                readSum(tape);
                add(isBelow ? BELOW : ABOVE, 0);
            }
        }

        private void readSum(Tape tape) {
            boolean more = true;
            for (int i = 0; more && i < Tape.MOST; i++) {
                int part = partAtHand(tape);
                if (part == NONE) {
                    add(ADD, tape.wantNumber(0, MOST_NUMBER));
                } else {
                    tape.advance();
                    add(ADD_PART, part);
                }
                more = tape.takeSign('+');
            }
        }

        private static int partAtHand(Tape tape) {
            if (tape.isWord("people")) {
                return PEOPLE;
            } else if (tape.isWord("holds")) {
                return HOLDS;
            } else if (tape.isWord("inside")) {
                return INSIDE;
            } else if (tape.isWord("yard")) {
                return YARD;
            } else if (tape.isWord("weight")) {
                return WEIGHT;
            } else if (tape.isWord("wind")) {
                return WIND;
            }
            return tape.isWord("second") ? SECOND : NONE;
        }

        /** BACK of a yard and the barrel that heats it. */
        int backFrom(Town town, int yard, int barrel) {
            int going = 0;
            int left = 0;
            int sum = 0;
            // What holds, the latest as the lowest bit: a text at most 6 deep never has more than some 16 of them.
            int truths = 0;
            for (int i = 0; i < size; i++) {
                int number = steps[i] >> 4;
                int latest = truths & 1;
                switch (steps[i] & 15) {
                    case ADD: sum += number; break;
                    case ADD_PART: sum += partOf(number, town, yard, barrel); break;
                    case TURN: left = sum; sum = 0; break;
                    case BELOW: truths = withTruth(truths, left < sum); sum = 0; break;
                    case ABOVE: truths = withTruth(truths, left > sum); sum = 0; break;
                    case THATCH: truths = withTruth(truths, Sets.has(town.yards.thatch, yard)); break;
                    case AT: truths = withTruth(truths, town.barrels.yardAt(barrel, town.second) == yard); break;
                    case NOT: truths ^= 1; break;
                    case AND: truths = truths >> 1 & (latest | ~1); break;
                    case OR: truths = truths >> 1 | latest; break;
                    case GO: going += number; break;
                    case GO_IF: going += latest * number; truths >>= 1; break;
                    default: break;
                }
            }
            return going;
        }

        private static int withTruth(int truths, boolean holds) {
            return truths << 1 | (holds ? 1 : 0);
        }

        private static int partOf(int part, Town town, int yard, int barrel) {
            switch (part) {
                case PEOPLE: return town.yards.people[yard];
                case HOLDS: return town.yards.holds[yard];
                case INSIDE: return town.yards.inside[yard];
                case YARD: return yard;
                case WEIGHT: return town.barrels.weight[barrel];
                case WIND: return town.wind;
                default: return town.second;
            }
        }
    }
}
