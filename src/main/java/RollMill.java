import java.util.ArrayList;
import java.util.Arrays;
import java.util.NoSuchElementException;

/** A mill that rolls steel: ../shared/DOC.md says what each call promises. */
public final class RollMill {
    public static final int NONE = -1;

    private static final int STANDS_MOST = 5;
    private static final int POINTS_MOST = 10;
    private static final int SEGMENTS_MOST = 40;
    private static final int TICKS_MOST = SEGMENTS_MOST + STANDS_MOST - 1;
    private static final int PASSES_MOST = 12;
    private static final int ORDERS_MOST = 9;
    private static final int READINGS_MOST = 100;
    private static final int COILS = 10;
    private static final int PLACES = 40;
    private static final int EVENING_LAST = 99;
    private static final int TAPE_MOST = 400;
    private static final int FED_AT_ONCE = 20;
    private static final int MARKS_MOST = 10;
    private static final int MARK_BITS = 17;
    private static final int MARK_LAST = 99_999;
    private static final int SLICES = 5;
    private static final int THICKNESS_MOST = 60_000;
    private static final int HARDNESS_MOST = 99;
    private static final int PRESS_MOST = 999_999_999;
    private static final int WEAR_A_UNIT = 1000;

    private static final int DONE = 0;
    private static final int BROKEN = 1;
    private static final int TORN = 2;
    private static final int LOOPED = 3;

    /** How much of the bend, in tenths, each slice feels. */
    private static final int[] BEND = {4, 1, 0, 1, 4};

    private final Line line = new Line();
    private final int[] tape = new int[TAPE_MOST];
    private int taped;
    private final Reader reader = new Reader(tape);
    private final Coil coil = new Coil();
    private final Run latest = new Run(line, coil);
    private final Planner planner = new Planner(line);
    private final int[] slicesIn = new int[SLICES];
    private final int[] slicesOut = new int[SLICES];
    private final Orders orders = new Orders();
    private final Readings readings = new Readings();

    public RollMill() {
    }

    public int stand(int stiffness, int most, int low, int high, int screws, int speed, int turn, int water) {
        if (line.many() >= STANDS_MOST
                || !isFrame(stiffness, most, low, high)
                || !isDrive(screws, speed, turn, water)) {
            return NONE;
        }
        Stand added = new Stand(stiffness, most, low, high);
        added.setDrive(screws, speed, turn, water);
        latest.forget();
        return line.addStand(added);
    }

    public int point(int draft, int press) {
        return line.law.addPoint(draft, press);
    }

    public int press(int x, int h) throws IllegalArgumentException {
        if (!within(x, 0, THICKNESS_MOST) || !isHardness(h)) {
            throw new IllegalArgumentException();
        }
        return line.law.pressFor(x, h);
    }

    public int bite(int stand, int in, int h, int what) throws NoSuchElementException, IllegalArgumentException {
        Stand biting = standAt(stand);
        requireWhat(what, 1);
        if (!isThickness(in) || !isHardness(h)) {
            throw new IllegalArgumentException();
        }
        int out = biting.outFor(line.law, in, h, biting.gap);
        return what == 0 ? out : line.law.pressFor(in - out, h);
    }

    public int gap(int stand, int gap) throws NoSuchElementException, IllegalArgumentException {
        Stand set = standAt(stand);
        if (!within(gap, set.low, set.high)) {
            throw new IllegalArgumentException();
        }
        int was = set.gap;
        set.gap = gap;
        return was;
    }

    public int change(int stand) throws NoSuchElementException {
        Stand changed = standAt(stand);
        int was = changed.wear;
        changed.wear = 0;
        changed.changes++;
        return was;
    }

    public int standOf(int stand, int what) throws NoSuchElementException {
        Stand asked = standAt(stand);
        requireWhat(what, 2);
        if (what == 0) {
            return asked.gap;
        }
        return what == 1 ? asked.wear : asked.changes;
    }

    public int feed(int a, int b, int c, int d, int e) {
        if (taped > TAPE_MOST - FED_AT_ONCE) {
            return NONE;
        }
        tapeNumber(a);
        tapeNumber(b);
        tapeNumber(c);
        tapeNumber(d);
        tapeNumber(e);
        return taped;
    }

    public int rules(int n) throws IllegalArgumentException {
        if (!within(n, 0, taped)) {
            throw new IllegalArgumentException();
        }
        taped = 0;
        return reader.readRules(n, line.many());
    }

    public int fault() {
        return reader.faultAt;
    }

    public void coil() {
        coil.many = 0;
        latest.forget();
    }

    public int segment(int thickness, int h) {
        int many = coil.addSegment(thickness, h);
        if (many != NONE) {
            latest.forget();
        }
        return many;
    }

    public int run(int aim) throws IllegalArgumentException {
        if (!isThickness(aim)) {
            throw new IllegalArgumentException();
        }
        return latest.roll(reader.told, aim);
    }

    public int ran(int what) throws NoSuchElementException {
        requireRun();
        requireWhat(what, 4);
        switch (what) {
            case 0:
                return latest.ticks;
            case 1:
                return latest.endedAt;
            case 2:
                return latest.greatest;
            case 3:
                return latest.cameOut;
            default:
                return latest.lengths;
        }
    }

    public int out(int stand, int segment) throws NoSuchElementException {
        standAt(stand);
        requireRun();
        if (!within(segment, 0, coil.many - 1)) {
            throw new NoSuchElementException();
        }
        return latest.outOf(stand, segment);
    }

    public int gauge(int tick) throws NoSuchElementException {
        requireRun();
        if (!within(tick, 0, latest.gauged - 1)) {
            throw new NoSuchElementException();
        }
        return latest.gauges[tick];
    }

    public int pull(int stand) throws NoSuchElementException {
        standAt(stand);
        requireRun();
        return latest.pulls[stand];
    }

    public int lost(boolean tail, int e) throws NoSuchElementException, IllegalArgumentException {
        requireRun();
        if (e < 0) {
            throw new IllegalArgumentException();
        }
        return latest.lostAt(tail, e);
    }

    public int pass(int thickness) {
        return planner.addPass(thickness);
    }

    public int plan(int in, int h, int out) throws IllegalArgumentException {
        if (!isThickness(in) || !isHardness(h) || !isThickness(out)) {
            throw new IllegalArgumentException();
        }
        return planner.findPlan(in, h, out);
    }

    public int planned(int stand, int what) throws NoSuchElementException {
        standAt(stand);
        requireWhat(what, 2);
        if (stand >= planner.keptStands) {
            throw new NoSuchElementException();
        }
        if (what == 0) {
            return planner.keptOut[stand];
        }
        return what == 1 ? planner.keptPress[stand] : planner.keptGap[stand];
    }

    public boolean fits(int stand, int many, long a, long b, long c, long d, int e, int x, int y)
            throws NoSuchElementException, IllegalArgumentException {
        Stand asked = standAt(stand);
        if (!within(many, 2, MARKS_MOST) || e < 0 || !isThickness(x) || !isThickness(y)) {
            throw new IllegalArgumentException();
        }
        int ahead = NONE;
        for (int i = 0; i < many; i++) {
            int place = placeOf(i, a, b, c, d);
            if (!within(place, ahead + 1, MARK_LAST)) {
                throw new IllegalArgumentException();
            }
            ahead = place;
        }
        int first = placeOf(0, a, b, c, d);
        for (int i = 1; i < many; i++) {
            if (!isWholeTurns(placeOf(i, a, b, c, d) - first, (long) asked.turn * x, y, e)) {
                return false;
            }
        }
        return true;
    }

    public int waves(int stand, int s0, int s1, int s2, int s3, int s4, int h, int b, int n)
            throws NoSuchElementException, IllegalArgumentException {
        Stand biting = standAt(stand);
        slicesIn[0] = s0;
        slicesIn[1] = s1;
        slicesIn[2] = s2;
        slicesIn[3] = s3;
        slicesIn[4] = s4;
        if (!areThicknesses(slicesIn) || !isHardness(h) || !within(b, -999, 999) || !within(n, 0, 1000)) {
            throw new IllegalArgumentException();
        }
        for (int i = 0; i < SLICES; i++) {
            int bent = Math.max(0, biting.gap + BEND[i] * b / 10);
            slicesOut[i] = biting.outFor(line.law, slicesIn[i], h, bent);
        }
        return waveBits(n);
    }

    public int order(int width, int thickness, int ticks, int due) {
        return orders.addOrder(width, thickness, ticks, due);
    }

    public int row() {
        return orders.findRow();
    }

    public int rowed(int i) throws NoSuchElementException {
        if (!within(i, 0, orders.keptMany - 1)) {
            throw new NoSuchElementException();
        }
        return orders.keptAt(i);
    }

    public int evenings(int n) throws IllegalArgumentException {
        if (!within(n, 0, EVENING_LAST - readings.tonight)) {
            throw new IllegalArgumentException();
        }
        readings.tonight += n;
        return readings.tonight;
    }

    public int reading(int coil, int place, int thickness) {
        return readings.addReading(coil, place, thickness);
    }

    public boolean back(int reading) throws NoSuchElementException {
        if (!within(reading, 0, readings.many - 1)) {
            throw new NoSuchElementException();
        }
        return readings.takeBack(reading);
    }

    public int known(int coil, int what, int thickness, int e, int k)
            throws NoSuchElementException, IllegalArgumentException {
        if (!within(coil, 0, COILS - 1)) {
            throw new NoSuchElementException();
        }
        requireWhat(what, 3);
        if (!within(k, 0, readings.tonight) || e < 0) {
            throw new IllegalArgumentException();
        }
        readings.recall(coil, k);
        switch (what) {
            case 0:
                return readings.placesKnown();
            case 1:
                return readings.sumKnown();
            case 2:
                return readings.leastOff(thickness, e);
            default:
                return readings.manyOff(thickness, e);
        }
    }

    public int count(int what) throws NoSuchElementException {
        requireWhat(what, 7);
        switch (what) {
            case 0:
                return readings.tonight;
            case 1:
                return line.many();
            case 2:
                return line.law.many;
            case 3:
                return coil.many;
            case 4:
                return planner.many;
            case 5:
                return orders.many;
            case 6:
                return readings.many;
            default:
                return taped;
        }
    }

    private static boolean within(int x, int least, int most) {
        return x >= least && x <= most;
    }

    private static boolean isThickness(int x) {
        return within(x, 1, THICKNESS_MOST);
    }

    private static boolean areThicknesses(int[] row) {
        for (int x : row) {
            if (!isThickness(x)) {
                return false;
            }
        }
        return true;
    }

    private static boolean isHardness(int h) {
        return within(h, 1, HARDNESS_MOST);
    }

    private static boolean isFrame(int stiffness, int most, int low, int high) {
        return within(stiffness, 1, 999) && within(most, 1, 9_999_999)
                && within(low, 0, THICKNESS_MOST) && within(high, low, THICKNESS_MOST);
    }

    private static boolean isDrive(int screws, int speed, int turn, int water) {
        return within(screws, 1, THICKNESS_MOST) && within(speed, 1, 999)
                && within(turn, 100, 4000) && within(water, 0, 9);
    }

    private Stand standAt(int stand) {
        if (!within(stand, 0, line.many() - 1)) {
            throw new NoSuchElementException();
        }
        return line.at(stand);
    }

    private static void requireWhat(int what, int last) {
        if (!within(what, 0, last)) {
            throw new NoSuchElementException();
        }
    }

    private void requireRun() {
        if (!latest.told) {
            throw new NoSuchElementException();
        }
    }

    private void tapeNumber(int number) {
        for (int shift = 24; shift >= 0 && taped < TAPE_MOST; shift -= 8) {
            tape[taped] = (number >>> shift) & 255;
            taped++;
        }
    }

    private static int placeOf(int i, long a, long b, long c, long d) {
        long three = i < 3 ? a : i < 6 ? b : i < 9 ? c : d;
        return (int) (three >>> (MARK_BITS * (i % 3))) & ((1 << MARK_BITS) - 1);
    }

    /** All is told y times as large: what a turn leaves on the strip is a fraction by y. */
    private static boolean isWholeTurns(int distance, long turn, int y, int e) {
        if (turn < 1) {
            return false;
        }
        long far = (long) distance * y;
        long free = (long) e * y;
        long turns = Math.max(1, far / turn);
        return Math.abs(far - turns * turn) <= free || Math.abs(far - (turns + 1) * turn) <= free;
    }

    private int waveBits(int n) {
        long in = 0;
        long out = 0;
        for (int i = 0; i < SLICES; i++) {
            in += slicesIn[i];
            out += slicesOut[i];
        }
        int bits = 0;
        for (int i = 0; i < SLICES; i++) {
            if (slicesIn[i] * out * 1000 > (1000 + n) * in * slicesOut[i]) {
                bits |= 1 << i;
            }
        }
        return bits;
    }

    /** The bite law; its first point, 0 and 0, counts as none of those told. */
    private static final class BiteLaw {
        private final int[] drafts = new int[POINTS_MOST + 1];
        private final int[] presses = new int[POINTS_MOST + 1];
        private int many;

        int addPoint(int draft, int press) {
            if (many >= POINTS_MOST
                    || !within(draft, drafts[many] + 1, THICKNESS_MOST)
                    || !within(press, presses[many] + 1, 99_999)) {
                return NONE;
            }
            many++;
            drafts[many] = draft;
            presses[many] = press;
            return many;
        }

        int pressFor(int draft, int hardness) {
            if (many < 1) {
                return 0;
            }
            int to = 1;
            while (to < many && draft > drafts[to]) {
                to++;
            }
            int wide = drafts[to] - drafts[to - 1];
            if (wide < 1) {
                return 0;
            }
            long along = draft - drafts[to - 1];
            long onLine = presses[to - 1] + along * (presses[to] - presses[to - 1]) / wide;
            return (int) Math.min(PRESS_MOST, onLine * hardness / 10);
        }
    }

    /** A stand: as it was told, and what runs and hands change of it. */
    private static final class Stand {
        /** Thicknesses to choose from, halved that often, leave one. */
        private static final int HALVINGS = 16;

        private final int stiffness;
        private final int most;
        private final int low;
        private final int high;
        private int screws;
        private int speed;
        private int turn;
        private int water;
        private int gap;
        private int wear;
        private int changes;
        /** Its bite in the tick at hand, all 0 if it had none. */
        private int in;
        private int hard;
        private int out;
        private int press;

        Stand(int stiffness, int most, int low, int high) {
            this.stiffness = stiffness;
            this.most = most;
            this.low = low;
            this.high = high;
            this.gap = high;
        }

        void setDrive(int newScrews, int newSpeed, int newTurn, int newWater) {
            screws = newScrews;
            speed = newSpeed;
            turn = newTurn;
            water = newWater;
        }

        /** A thicker strip asks for less press and stretches the frame more: so the least may be halved for. */
        int outFor(BiteLaw law, int goesIn, int hardness, int atGap) {
            int open = atGap + wear / WEAR_A_UNIT;
            if (open >= goesIn) {
                return goesIn;
            }
            int least = 1;
            int found = goesIn;
            for (int i = 0; i < HALVINGS && least < found; i++) {
                int middle = (least + found) / 2;
                if (isBorne(law, goesIn, hardness, open, middle)) {
                    found = middle;
                } else {
                    least = middle + 1;
                }
            }
            return found;
        }

        private boolean isBorne(BiteLaw law, int goesIn, int hardness, int open, int goesOut) {
            return (long) (goesOut - open) * stiffness >= law.pressFor(goesIn - goesOut, hardness);
        }

        void biteStrip(BiteLaw law, int goesIn, int hardness) {
            in = goesIn;
            hard = hardness;
            out = outFor(law, goesIn, hardness, gap);
            press = law.pressFor(goesIn - out, hardness);
        }

        void rest() {
            in = 0;
            hard = 0;
            out = 0;
            press = 0;
        }

        boolean hasBitten() {
            return in > 0;
        }

        void moveTowards(int wanted) {
            int goal = Math.max(low, Math.min(high, wanted));
            gap += Math.max(-screws, Math.min(screws, goal - gap));
        }

        /** The press that a plan would ask, NONE if it can't be. */
        int planPress(BiteLaw law, int goesIn, int hardness, int goesOut) {
            int asked = law.pressFor(goesIn - goesOut, hardness);
            return asked > most || planGap(law, goesIn, hardness, goesOut) == NONE ? NONE : asked;
        }

        /** The greatest gap by which just that goes out, NONE without. */
        int planGap(BiteLaw law, int goesIn, int hardness, int goesOut) {
            if (stiffness < 1) {
                return NONE;
            }
            int worn = wear / WEAR_A_UNIT;
            int found = high;
            if (goesOut < goesIn) {
                int stretch = (law.pressFor(goesIn - goesOut, hardness) + stiffness - 1) / stiffness;
                found = Math.min(high, goesOut - worn - stretch);
            }
            if (found < low) {
                return NONE;
            }
            boolean thinner = goesOut > 1 && isBorne(law, goesIn, hardness, found + worn, goesOut - 1);
            return thinner ? NONE : found;
        }
    }

    /** The stands in a row, and the law by which they all bite. */
    private static final class Line {
        private final BiteLaw law = new BiteLaw();
        private final ArrayList<Stand> stands = new ArrayList<Stand>();

        int many() {
            return stands.size();
        }

        int addStand(Stand added) {
            stands.add(added);
            return stands.size() - 1;
        }

        /** Only for numbers from 0 to many() less 1. */
        Stand at(int stand) {
            return stands.get(stand);
        }

        /** How hard the strip is as it comes to a stand, by the water behind those ahead. */
        int hardnessAt(int stand, int hardness) {
            int hard = hardness;
            for (int i = 0; i < stand && i < stands.size(); i++) {
                hard += stands.get(i).water;
            }
            return Math.min(HARDNESS_MOST, hard);
        }
    }

    /** The tokens of a text of rules; a sign's token is its byte. */
    private static final class Token {
        static final int END = 0;
        static final int BAD = 1;
        static final int NUMBER = 2;
        /** The words by number, from FIRST_WORD on, each with a blank behind; the values first. */
        static final String WORDS = "gap in out press gauge aim tick wear pull hard not and or unless stand late drift tear loop ";
        static final int FIRST_WORD = 100;
        static final int GAP = 100;
        static final int IN = 101;
        static final int OUT = 102;
        static final int PRESS = 103;
        static final int GAUGE = 104;
        static final int AIM = 105;
        static final int TICK = 106;
        static final int WEAR = 107;
        static final int PULL = 108;
        static final int HARD = 109;
        static final int VALUES = 10;
        static final int NOT = 110;
        static final int AND = 111;
        static final int OR = 112;
        static final int UNLESS = 113;
        static final int STAND = 114;
        static final int LATE = 115;
        static final int DRIFT = 116;
        static final int TEAR = 117;
        static final int LOOP = 118;
        static final int OTHER_WORD = 119;

        private Token() {
        }

        static boolean isWord(int token) {
            return token >= FIRST_WORD;
        }

        static boolean isValue(int token) {
            return within(token, FIRST_WORD, FIRST_WORD + VALUES - 1);
        }
    }

    /**
     * Rules as they were read. An expression is a row of steps for a stack: a number as it is,
     * a value's or a sign's token below 0.
     */
    private static final class Rules {
        private static final int CLAUSES_MOST = 12;
        private static final int PULL_FREE = 99_999;

        private final int[] steps = new int[TAPE_MOST];
        private int stepped;
        private final int[] stack = new int[TAPE_MOST];
        private final int[] clauseStand = new int[CLAUSES_MOST];
        /** A clause's steps: what is wanted, up to where its 'unless' begins, and that up to its end. */
        private final int[] wantedFrom = new int[CLAUSES_MOST];
        private final int[] unlessFrom = new int[CLAUSES_MOST];
        private final int[] clauseEnd = new int[CLAUSES_MOST];
        private int clauses;
        private int late;
        private int drift;
        private int tear = PULL_FREE;
        private int loop = PULL_FREE;

        void clear() {
            stepped = 0;
            clauses = 0;
            late = 0;
            drift = 0;
            tear = PULL_FREE;
            loop = PULL_FREE;
        }

        void addStep(int step) {
            if (stepped < TAPE_MOST) {
                steps[stepped] = step;
                stepped++;
            }
        }

        void addClause(int stand, int wanted, int unless) {
            if (clauses < CLAUSES_MOST) {
                clauseStand[clauses] = stand;
                wantedFrom[clauses] = wanted;
                unlessFrom[clauses] = unless;
                clauseEnd[clauses] = stepped;
                clauses++;
            }
        }

        void setNumber(int word, int number) {
            switch (word) {
                case Token.LATE:
                    late = number;
                    break;
                case Token.DRIFT:
                    drift = number;
                    break;
                case Token.TEAR:
                    tear = number;
                    break;
                default:
                    loop = number;
                    break;
            }
        }

        /** Where a stand's gap shall go: to where it is, if no clause tells. */
        int wantedGap(int stand, int[] values) {
            for (int i = 0; i < clauses; i++) {
                if (clauseStand[i] == stand && valueOf(unlessFrom[i], clauseEnd[i], values) == 0) {
                    return valueOf(wantedFrom[i], unlessFrom[i], values);
                }
            }
            return values[Token.GAP - Token.FIRST_WORD];
        }

        /** 0 of no steps: so a clause without an 'unless' always tells. */
        private int valueOf(int from, int to, int[] values) {
            int top = 0;
            for (int i = from; i < to; i++) {
                int step = steps[i];
                if (step >= 0 || Token.isValue(-step)) {
                    if (top >= TAPE_MOST) {
                        return 0;
                    }
                    stack[top] = step >= 0 ? step : values[-step - Token.FIRST_WORD];
                    top++;
                } else if (step == -Token.NOT) {
                    if (top < 1) {
                        return 0;
                    }
                    stack[top - 1] = stack[top - 1] == 0 ? 1 : 0;
                } else {
                    if (top < 2) {
                        return 0;
                    }
                    top--;
                    stack[top - 1] = joined(-step, stack[top - 1], stack[top]);
                }
            }
            return top > 0 ? stack[top - 1] : 0;
        }

        private static int joined(int sign, int a, int b) {
            switch (sign) {
                case '+':
                    return a + b;
                case '-':
                    return a - b;
                case '*':
                    return a * b;
                case '/':
                    return b == 0 ? 0 : a / b;
                case '<':
                    return a < b ? 1 : 0;
                case '=':
                    return a == b ? 1 : 0;
                case Token.AND:
                    return a != 0 && b != 0 ? 1 : 0;
                default:
                    return a != 0 || b != 0 ? 1 : 0;
            }
        }
    }

    /** Reads a text token by token; each reading method answers false as soon as there is a fault. */
    private static final class Reader {
        private static final int CANT_STAND = 1;
        private static final int TOO_MUCH = 2;
        private static final int NO_VALUE = 3;
        private static final int NO_STAND = 4;
        private static final int DIGITS_MOST = 5;
        private static final int LATE_MOST = 9;
        private static final int NOTS_MOST = 6;
        private static final int WITHIN_MOST = 5;
        /** The rows of an expression, each of the next one's: 'or's, 'and's; of a test's side: sums, products. */
        private static final int ORS = 0;
        private static final int ANDS = 1;
        private static final int SUMS = 2;
        private static final int PRODUCTS = 3;

        private final int[] text;
        private int length;
        private int stands;
        private Rules told = new Rules();
        /** A text is read into these, so that a fault leaves the rules told as they were. */
        private Rules draft = new Rules();
        private int token;
        private int tokenAt;
        private int tokenEnd;
        /** Of a number too long to count only the digits count. */
        private int number;
        private int digits;
        private int fault;
        private int faultAt = NONE;

        Reader(int[] text) {
            this.text = text;
        }

        /** 0, or the fault. */
        int readRules(int newLength, int manyStands) {
            length = Math.min(newLength, text.length);
            stands = manyStands;
            draft.clear();
            fault = 0;
            faultAt = NONE;
            tokenEnd = 0;
            readToken();
            boolean good = true;
            for (int i = 0; i <= Rules.CLAUSES_MOST && good && token != Token.END; i++) {
                good = readClause(i);
            }
            if (good) {
                Rules old = told;
                told = draft;
                draft = old;
            }
            return fault;
        }

        private boolean refuse(int kind) {
            fault = kind;
            faultAt = tokenAt;
            return false;
        }

        private boolean take(int wanted) {
            if (token != wanted) {
                return refuse(CANT_STAND);
            }
            readToken();
            return true;
        }

        private boolean readClause(int clausesAhead) {
            int word = token;
            if (!within(word, Token.STAND, Token.LOOP)) {
                return refuse(CANT_STAND);
            }
            if (clausesAhead >= Rules.CLAUSES_MOST) {
                return refuse(TOO_MUCH);
            }
            readToken();
            return word == Token.STAND ? readStandClause() : readNumberClause(word);
        }

        private boolean readStandClause() {
            if (!isNumber()) {
                return false;
            }
            if (number >= stands) {
                return refuse(NO_STAND);
            }
            int stand = number;
            readToken();
            int wanted = draft.stepped;
            if (!take(Token.GAP) || !readExpression(0)) {
                return false;
            }
            int unless = draft.stepped;
            if (token == Token.UNLESS) {
                readToken();
                if (!readExpression(0)) {
                    return false;
                }
            }
            draft.addClause(stand, wanted, unless);
            return take(';');
        }

        private boolean readNumberClause(int word) {
            if (!isNumber()) {
                return false;
            }
            if (word == Token.LATE && number > LATE_MOST) {
                return refuse(TOO_MUCH);
            }
            draft.setNumber(word, number);
            readToken();
            return take(';');
        }

        /** Whether the token is a number that may count; else a fault. */
        private boolean isNumber() {
            if (token != Token.NUMBER) {
                return refuse(CANT_STAND);
            }
            return digits <= DIGITS_MOST || refuse(TOO_MUCH);
        }

        private boolean readExpression(int others) {
            if (others > WITHIN_MOST) {
                boolean begins = token == Token.NUMBER || token == '(' || Token.isWord(token);
                return refuse(begins ? TOO_MUCH : CANT_STAND);
            }
            return readRow(ORS, others);
        }

        private boolean readRow(int kind, int others) {
            if (!readOneOf(kind, others)) {
                return false;
            }
            for (int i = 0; i < TAPE_MOST && isSignOf(kind); i++) {
                int sign = token;
                readToken();
                if (!readOneOf(kind, others)) {
                    return false;
                }
                draft.addStep(-sign);
            }
            return true;
        }

        private boolean isSignOf(int kind) {
            switch (kind) {
                case ORS:
                    return token == Token.OR;
                case ANDS:
                    return token == Token.AND;
                case SUMS:
                    return token == '+' || token == '-';
                default:
                    return token == '*' || token == '/';
            }
        }

        private boolean readOneOf(int kind, int others) {
            switch (kind) {
                case ORS:
                    return readRow(ANDS, others);
                case ANDS:
                    return readNots(others);
                case SUMS:
                    return readRow(PRODUCTS, others);
                default:
                    return readPart(others);
            }
        }

        private boolean readNots(int others) {
            int nots = 0;
            while (nots <= NOTS_MOST && token == Token.NOT) {
                if (nots == NOTS_MOST) {
                    return refuse(TOO_MUCH);
                }
                nots++;
                readToken();
            }
            if (!readTest(others)) {
                return false;
            }
            for (int i = 0; i < nots; i++) {
                draft.addStep(-Token.NOT);
            }
            return true;
        }

        private boolean readTest(int others) {
            if (!readRow(SUMS, others)) {
                return false;
            }
            if (token == '<' || token == '=') {
                int sign = token;
                readToken();
                if (!readRow(SUMS, others)) {
                    return false;
                }
                draft.addStep(-sign);
            }
            return true;
        }

        private boolean readPart(int others) {
            if (token == '(') {
                readToken();
                return readExpression(others + 1) && take(')');
            }
            if (Token.isWord(token)) {
                if (!Token.isValue(token)) {
                    return refuse(NO_VALUE);
                }
                draft.addStep(-token);
            } else {
                if (!isNumber()) {
                    return false;
                }
                draft.addStep(number);
            }
            readToken();
            return true;
        }

        private void readToken() {
            int i = tokenEnd;
            while (i < length && (text[i] == ' ' || text[i] == '\n')) {
                i++;
            }
            tokenAt = i;
            if (i >= length) {
                token = Token.END;
            } else if (isLetter(text[i])) {
                while (i < length && isLetter(text[i])) {
                    i++;
                }
                token = wordFrom(tokenAt, i);
            } else if (isDigit(text[i])) {
                i = readDigits(i);
                token = Token.NUMBER;
            } else {
                token = isSign(text[i]) ? text[i] : Token.BAD;
                i++;
            }
            tokenEnd = i;
        }

        /** Where the digits end. */
        private int readDigits(int from) {
            int i = from;
            number = 0;
            digits = 0;
            while (i < length && isDigit(text[i])) {
                if (digits < DIGITS_MOST) {
                    number = number * 10 + text[i] - '0';
                }
                digits++;
                i++;
            }
            return i;
        }

        private int wordFrom(int from, int to) {
            int word = Token.FIRST_WORD;
            int begins = 0;
            for (int i = 0; i < Token.WORDS.length(); i++) {
                if (Token.WORDS.charAt(i) == ' ') {
                    if (i - begins == to - from && isWordAt(begins, from, to)) {
                        return word;
                    }
                    word++;
                    begins = i + 1;
                }
            }
            return Token.OTHER_WORD;
        }

        private boolean isWordAt(int begins, int from, int to) {
            for (int i = from; i < to; i++) {
                if (Token.WORDS.charAt(begins + i - from) != text[i]) {
                    return false;
                }
            }
            return true;
        }

        private static boolean isLetter(int sign) {
            return within(sign, 'a', 'z');
        }

        private static boolean isDigit(int sign) {
            return within(sign, '0', '9');
        }

        private static boolean isSign(int sign) {
            return within(sign, '(', '+') || sign == '-' || sign == '/' || within(sign, ';', '=');
        }
    }

    /** The coil at hand. */
    private static final class Coil {
        private final int[] thicknesses = new int[SEGMENTS_MOST];
        private final int[] hardnesses = new int[SEGMENTS_MOST];
        private int many;

        int addSegment(int thickness, int hardness) {
            if (many >= SEGMENTS_MOST || !isThickness(thickness) || !isHardness(hardness)) {
                return NONE;
            }
            thicknesses[many] = thickness;
            hardnesses[many] = hardness;
            many++;
            return many;
        }
    }

    /** The latest run; as long as it is told, line and coil have the stands and segments that it had. */
    private static final class Run {
        private static final int LENGTH_FIRST = 1000;
        private static final int LENGTH_MOST = 10_000_000;

        private final Line line;
        private final Coil coil;
        private boolean told;
        private int aim;
        private int ticks;
        private int endedAt;
        private int greatest;
        private int cameOut;
        private int lengths;
        /** What went out of stand s of segment i, at s times SEGMENTS_MOST and i. */
        private final int[] outs = new int[STANDS_MOST * SEGMENTS_MOST];
        private final int[] pulls = new int[STANDS_MOST];
        private final int[] gauges = new int[TICKS_MOST];
        private int gauged;
        private final int[] values = new int[Token.VALUES];

        Run(Line line, Coil coil) {
            this.line = line;
            this.coil = coil;
        }

        void forget() {
            told = false;
        }

        int roll(Rules rules, int newAim) {
            begin(newAim);
            int due = line.many() < 1 || coil.many < 1 ? 0 : line.many() + coil.many - 1;
            for (int tick = 0; tick < due && tick < TICKS_MOST; tick++) {
                ticks++;
                if (!biteAll(tick)) {
                    return BROKEN;
                }
                movePulls();
                int end = endByPull(rules);
                if (end != DONE) {
                    return end;
                }
                gauges[tick] = gaugeAt(tick, rules);
                gauged++;
                moveGaps(tick, rules);
            }
            return DONE;
        }

        private void begin(int newAim) {
            told = true;
            aim = newAim;
            ticks = 0;
            endedAt = NONE;
            greatest = 0;
            cameOut = 0;
            lengths = 0;
            gauged = 0;
            Arrays.fill(outs, NONE);
            Arrays.fill(pulls, 0);
        }

        /** False, if a stand breaks. */
        private boolean biteAll(int tick) {
            for (int s = 0; s < line.many(); s++) {
                Stand stand = line.at(s);
                int segment = tick - s;
                if (!within(segment, 0, coil.many - 1)) {
                    stand.rest();
                    continue;
                }
                int in = s == 0 ? coil.thicknesses[segment] : outOf(s - 1, segment);
                stand.biteStrip(line.law, in, line.hardnessAt(s, coil.hardnesses[segment]));
                greatest = Math.max(greatest, stand.press);
                if (stand.press > stand.most) {
                    endedAt = s;
                    return false;
                }
                stand.wear += stand.press / 100;
                outs[s * SEGMENTS_MOST + segment] = stand.out;
                if (s == line.many() - 1) {
                    cameOut++;
                    lengths += lengthBehind(coil.thicknesses[segment], stand.out);
                }
            }
            return true;
        }

        private static int lengthBehind(int thicknessFirst, int thickness) {
            return thickness < 1 ? LENGTH_MOST : Math.min(LENGTH_MOST, LENGTH_FIRST * thicknessFirst / thickness);
        }

        private void movePulls() {
            for (int s = 0; s < line.many() - 1; s++) {
                Stand ahead = line.at(s);
                Stand behind = line.at(s + 1);
                if (ahead.hasBitten() && behind.hasBitten()) {
                    pulls[s] += (behind.speed * behind.in - ahead.speed * ahead.out) / 1000;
                } else {
                    pulls[s] = 0;
                }
            }
        }

        private int endByPull(Rules rules) {
            for (int s = 0; s < line.many() - 1; s++) {
                if (pulls[s] > rules.tear || pulls[s] < -rules.loop) {
                    endedAt = s;
                    return pulls[s] > rules.tear ? TORN : LOOPED;
                }
            }
            return DONE;
        }

        private int gaugeAt(int tick, Rules rules) {
            int last = line.many() - 1;
            int segment = tick - rules.late - last;
            if (!within(segment, 0, coil.many - 1)) {
                return 0;
            }
            return outOf(last, segment) + rules.drift * tick / 10;
        }

        private void moveGaps(int tick, Rules rules) {
            for (int s = 0; s < line.many(); s++) {
                Stand stand = line.at(s);
                setValue(Token.GAP, stand.gap);
                setValue(Token.IN, stand.in);
                setValue(Token.OUT, stand.out);
                setValue(Token.PRESS, stand.press);
                setValue(Token.GAUGE, gauges[tick]);
                setValue(Token.AIM, aim);
                setValue(Token.TICK, tick);
                setValue(Token.WEAR, stand.wear / WEAR_A_UNIT);
                setValue(Token.PULL, pulls[s]);
                setValue(Token.HARD, stand.hard);
                stand.moveTowards(rules.wantedGap(s, values));
            }
        }

        private void setValue(int token, int value) {
            values[token - Token.FIRST_WORD] = value;
        }

        /** NONE of a stand or a segment that there isn't, too. */
        int outOf(int stand, int segment) {
            if (!within(stand, 0, STANDS_MOST - 1) || !within(segment, 0, SEGMENTS_MOST - 1)) {
                return NONE;
            }
            return outs[stand * SEGMENTS_MOST + segment];
        }

        int lostAt(boolean tail, int e) {
            int lost = 0;
            while (lost < coil.many && isOff(tail ? coil.many - 1 - lost : lost, e)) {
                lost++;
            }
            return lost;
        }

        private boolean isOff(int segment, int e) {
            int out = outOf(line.many() - 1, segment);
            return out == NONE || Math.abs(out - aim) > e;
        }
    }

    /** Thicknesses for passes, and the best plan that is kept. */
    private static final class Planner {
        private static final int STEPS_MOST = PASSES_MOST + 1;

        private final Line line;
        private final int[] passes = new int[PASSES_MOST];
        private int many;
        /** What may go out anywhere, the greatest (what goes in at first) ahead. */
        private final int[] steps = new int[STEPS_MOST];
        private int stepped;
        /** The press of a stand from one step to another, NONE where it can't be. */
        private final int[] presses = new int[STANDS_MOST * STEPS_MOST * STEPS_MOST];
        private final int[] tried = new int[STANDS_MOST];
        private final int[] best = new int[STANDS_MOST];
        private int bestGreatest;
        private int bestSum;
        private final int[] keptOut = new int[STANDS_MOST];
        private final int[] keptPress = new int[STANDS_MOST];
        private final int[] keptGap = new int[STANDS_MOST];
        private int keptStands;

        Planner(Line line) {
            this.line = line;
        }

        int addPass(int thickness) {
            if (many >= PASSES_MOST || !isThickness(thickness)) {
                return NONE;
            }
            for (int i = 0; i < many; i++) {
                if (passes[i] == thickness) {
                    return NONE;
                }
            }
            passes[many] = thickness;
            many++;
            return many;
        }

        int findPlan(int in, int hardness, int out) {
            setSteps(in);
            int goal = stepOf(out);
            if (goal == NONE || line.many() < 1) {
                return NONE;
            }
            setPresses(hardness);
            bestGreatest = NONE;
            tryFrom(0, 0, goal, 0, 0);
            if (bestGreatest == NONE) {
                return NONE;
            }
            keepBest(in, hardness);
            return bestGreatest;
        }

        private void setSteps(int in) {
            steps[0] = in;
            stepped = 1;
            for (int i = 0; i < many; i++) {
                if (passes[i] < in && stepped < STEPS_MOST) {
                    int at = stepped;
                    while (at > 1 && steps[at - 1] < passes[i]) {
                        steps[at] = steps[at - 1];
                        at--;
                    }
                    steps[at] = passes[i];
                    stepped++;
                }
            }
        }

        private int stepOf(int thickness) {
            for (int i = 0; i < stepped; i++) {
                if (steps[i] == thickness) {
                    return i;
                }
            }
            return NONE;
        }

        private static int pressIndex(int stand, int from, int to) {
            return (stand * STEPS_MOST + from) * STEPS_MOST + to;
        }

        private void setPresses(int hardness) {
            for (int s = 0; s < line.many(); s++) {
                Stand stand = line.at(s);
                int hard = line.hardnessAt(s, hardness);
                for (int from = 0; from < (s == 0 ? 1 : stepped); from++) {
                    for (int to = from; to < stepped; to++) {
                        presses[pressIndex(s, from, to)] = stand.planPress(line.law, steps[from], hard, steps[to]);
                    }
                }
            }
        }

        /** Greater thicknesses are tried ahead: so of like plans the one found first stays. */
        private void tryFrom(int stand, int from, int goal, int greatest, int sum) {
            if (stand >= line.many()) {
                boolean better = bestGreatest == NONE || greatest < bestGreatest
                        || greatest == bestGreatest && sum < bestSum;
                if (better) {
                    bestGreatest = greatest;
                    bestSum = sum;
                    System.arraycopy(tried, 0, best, 0, STANDS_MOST);
                }
                return;
            }
            for (int to = stand == line.many() - 1 ? goal : from; to <= goal; to++) {
                int press = presses[pressIndex(stand, from, to)];
                if (press != NONE && (bestGreatest == NONE || press <= bestGreatest)) {
                    tried[stand] = to;
                    tryFrom(stand + 1, to, goal, Math.max(greatest, press), sum + press);
                }
            }
        }

        private void keepBest(int in, int hardness) {
            int goesIn = in;
            keptStands = line.many();
            for (int s = 0; s < keptStands; s++) {
                int hard = line.hardnessAt(s, hardness);
                int out = steps[best[s]];
                keptOut[s] = out;
                keptPress[s] = line.law.pressFor(goesIn - out, hard);
                keptGap[s] = line.at(s).planGap(line.law, goesIn, hard, out);
                goesIn = out;
            }
        }
    }

    /**
     * Orders, and their best row. A row is told by one number that is less the better the row is:
     * from the highest bit on its coin, how many changes, its orders, where the changes are.
     */
    private static final class Orders {
        private static final int COIN_SHIFT = 48;
        private static final int CHANGES_SHIFT = 44;
        private static final int ORDER_SHIFT = 8;
        private static final int ORDER_BITS = 4;
        private static final int CHANGE_COIN = 25;
        private static final int CHANGE_TICKS = 5;
        private static final int WIDER_COIN = 40;
        private static final int ROWS_MOST = (1 << ORDERS_MOST) * ORDERS_MOST;

        private final int[] widths = new int[ORDERS_MOST];
        private final int[] thicknesses = new int[ORDERS_MOST];
        private final int[] ticks = new int[ORDERS_MOST];
        private final int[] dues = new int[ORDERS_MOST];
        private int many;
        /** The best rows of each set of orders with each last one: with so many changes, with one more. */
        private long[] rows = new long[ROWS_MOST];
        private long[] rowsChanged = new long[ROWS_MOST];
        private long kept;
        private int keptMany;

        int addOrder(int width, int thickness, int takes, int due) {
            if (many >= ORDERS_MOST || !within(width, 1, 9999) || !isThickness(thickness)
                    || !within(takes, 1, 99) || !within(due, 0, 999)) {
                return NONE;
            }
            widths[many] = width;
            thicknesses[many] = thickness;
            ticks[many] = takes;
            dues[many] = due;
            many++;
            return many - 1;
        }

        /** Orders only come: with as many as at the last time the row is the same. */
        int findRow() {
            if (keptMany != many) {
                kept = bestRow();
                keptMany = many;
            }
            return (int) (kept >>> COIN_SHIFT);
        }

        int keptAt(int place) {
            int order = (int) (kept >>> orderShift(place)) & ((1 << ORDER_BITS) - 1);
            boolean changed = place > 0 && (kept >>> changeShift(place) & 1) == 1;
            return changed ? order + 100 : order;
        }

        private static int orderShift(int place) {
            return ORDER_SHIFT + ORDER_BITS * (ORDERS_MOST - 1 - place);
        }

        private static int changeShift(int place) {
            return ORDERS_MOST - 1 - place;
        }

        /**
         * When a row ends is told by which orders it has and how many changes: so of rows that
         * agree in these and in the last order only the best one can go on to the best row.
         */
        private long bestRow() {
            Arrays.fill(rows, Long.MAX_VALUE);
            for (int j = 0; j < many; j++) {
                rows[indexOf(1 << j, j)] = lateCoin(j, ticks[j]) + ((long) j << orderShift(0));
            }
            long found = Long.MAX_VALUE;
            for (int changes = 0; changes < many; changes++) {
                Arrays.fill(rowsChanged, Long.MAX_VALUE);
                found = Math.min(found, bestOfAll(changes));
                long[] done = rows;
                rows = rowsChanged;
                rowsChanged = done;
            }
            return found;
        }

        /** The best row of all orders with so many changes; on the way all with one more begin. */
        private long bestOfAll(int changes) {
            int all = (1 << many) - 1;
            for (int set = 1; set < all; set++) {
                int ended = endOf(set, changes);
                for (int last = 0; last < many; last++) {
                    if (rows[indexOf(set, last)] != Long.MAX_VALUE) {
                        addNext(set, last, ended);
                    }
                }
            }
            long found = Long.MAX_VALUE;
            for (int last = 0; last < many; last++) {
                found = Math.min(found, rows[indexOf(all, last)]);
            }
            return found;
        }

        private static int indexOf(int set, int last) {
            return set * ORDERS_MOST + last;
        }

        private void addNext(int set, int last, int ended) {
            int place = Integer.bitCount(set);
            long row = rows[indexOf(set, last)];
            long change = ((long) CHANGE_COIN << COIN_SHIFT) + (1L << CHANGES_SHIFT) + (1L << changeShift(place));
            for (int j = 0; j < many; j++) {
                if ((set & 1 << j) != 0) {
                    continue;
                }
                long longer = row + ((long) j << orderShift(place));
                int ends = ended + ticks[j];
                int at = indexOf(set | 1 << j, j);
                rows[at] = Math.min(rows[at], longer + besideCoin(last, j) + lateCoin(j, ends));
                rowsChanged[at] = Math.min(rowsChanged[at], longer + change + lateCoin(j, ends + CHANGE_TICKS));
            }
        }

        private int endOf(int set, int changes) {
            int end = changes * CHANGE_TICKS;
            for (int i = 0; i < many; i++) {
                if ((set & 1 << i) != 0) {
                    end += ticks[i];
                }
            }
            return end;
        }

        private long besideCoin(int first, int second) {
            int coin = Math.abs(thicknesses[first] - thicknesses[second]) / 100;
            if (widths[second] > widths[first]) {
                coin += WIDER_COIN;
            }
            return (long) coin << COIN_SHIFT;
        }

        private long lateCoin(int order, int ends) {
            return (long) (2 * Math.max(0, ends - dues[order])) << COIN_SHIFT;
        }
    }

    /** Readings, and the evenings that go by. */
    private static final class Readings {
        private int tonight;
        private final int[] coils = new int[READINGS_MOST];
        private final int[] places = new int[READINGS_MOST];
        private final int[] thicknesses = new int[READINGS_MOST];
        private final int[] toldOn = new int[READINGS_MOST];
        private final int[] backOn = new int[READINGS_MOST];
        private int many;
        /** What recall() found of each place, 0 where nothing is known. */
        private final int[] recalled = new int[PLACES];

        int addReading(int coil, int place, int thickness) {
            if (many >= READINGS_MOST || !within(coil, 0, COILS - 1)
                    || !within(place, 0, PLACES - 1) || !isThickness(thickness)) {
                return NONE;
            }
            coils[many] = coil;
            places[many] = place;
            thicknesses[many] = thickness;
            toldOn[many] = tonight;
            backOn[many] = NONE;
            many++;
            return many - 1;
        }

        boolean takeBack(int reading) {
            if (backOn[reading] != NONE) {
                return false;
            }
            backOn[reading] = tonight;
            return true;
        }

        void recall(int coil, int evening) {
            Arrays.fill(recalled, 0);
            for (int i = 0; i < many; i++) {
                boolean taken = backOn[i] != NONE && backOn[i] <= evening;
                if (coils[i] == coil && toldOn[i] <= evening && !taken) {
                    recalled[places[i]] = thicknesses[i];
                }
            }
        }

        int placesKnown() {
            int found = 0;
            for (int thickness : recalled) {
                found += thickness > 0 ? 1 : 0;
            }
            return found;
        }

        int sumKnown() {
            int sum = 0;
            for (int thickness : recalled) {
                sum += thickness;
            }
            return sum;
        }

        int leastOff(int thickness, int e) {
            for (int place = 0; place < PLACES; place++) {
                if (isOff(place, thickness, e)) {
                    return place;
                }
            }
            return NONE;
        }

        int manyOff(int thickness, int e) {
            int found = 0;
            for (int place = 0; place < PLACES; place++) {
                found += isOff(place, thickness, e) ? 1 : 0;
            }
            return found;
        }

        /** The thickness asked may be any int: as ints the difference could wrap. */
        private boolean isOff(int place, int thickness, int e) {
            return recalled[place] > 0 && Math.abs((long) recalled[place] - thickness) > e;
        }
    }
}
