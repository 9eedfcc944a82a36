/** Promises 20 to 24 at their edges, sentence by sentence: passes, plans, marks, slices. */
public final class PlanEdgesTest {
    private static final int MIN = Integer.MIN_VALUE;
    private static final int MAX = Integer.MAX_VALUE;
    private static final int FREE = 9_999_999;

    public static void main(String[] args) {
        passNumbers();
        passesUnlike();
        twelvePasses();
        planNumbers();
        noPlan();
        planKeptStays();
        outInOrTold();
        twelveAndIn();
        noneGreaterThanAhead();
        pressNotAboveMost();
        hardnessOfAPlan();
        gapFromLowToHigh();
        gapOpen();
        gapOfThinnest();
        gapByItsWear();
        onlyGapByItsWear();
        stiffnessOfAPlan();
        bestOfLikePlans();
        plannedEdges();
        manyMarks();
        elevenMarks();
        placesAsTold();
        marksNumbers();
        fromOneTurnOn();
        exactly();
        slicesNumbers();
        bendEdges();
        bentToLeast0();
        waveEdges();
        Check.end("PlanEdgesTest");
    }

    private static RollMill line(int stands, int most, int low, int high) {
        RollMill mill = new RollMill();
        for (int i = 0; i < stands; i++) {
            mill.stand(100, most, low, high, 1, 1, 500, 0);
        }
        return mill;
    }

    private static void passes(RollMill mill, int... thicknesses) {
        for (int thickness : thicknesses) {
            Check.holds("a pass of " + thickness, mill.pass(thickness) > 0);
        }
    }

    /** Promise 20: NONE, it is none. */
    private static void passNumbers() {
        int[][] edges = {{1, 60_000, 5}};
        Twins.noneBeyond("the first pass", Mills::empty, (mill, n) -> mill.pass(n[0]), edges);
        Twins.noneBeyond("the fourth pass", Mills::some, (mill, n) -> mill.pass(n[0]), edges);
    }

    /** NONE: it is there. */
    private static void passesUnlike() {
        for (int there : new int[] {1000, 950, 900}) {
            Twins.none("there is " + there, Mills::some, mill -> mill.pass(there));
        }
        RollMill mill = Mills.some();
        Check.same("one more", mill.pass(901), 4);
        Check.none("then it is there", mill.pass(901));
        Check.same("one less", mill.pass(899), 5);
        Check.same("five", mill.count(4), 5);
    }

    /** How many, at most 12; NONE: there are 12. */
    private static void twelvePasses() {
        RollMill mill = new RollMill();
        for (int i = 1; i <= 12; i++) {
            Check.same("how many", mill.pass(5000 * i), i);
        }
        Check.none("the 13th", mill.pass(1));
        Check.same("twelve", mill.count(4), 12);
        Twins.none("the 13th", Mills::full, full -> full.pass(7));
        Twins.none("the 13th, there too", Mills::full, full -> full.pass(1000));
    }

    /** Promise 21: IllegalArgumentException, in, out are no thickness, h not 1 to 99. */
    private static void planNumbers() {
        int[][] edges = {{1, 60_000, 1000}, {1, 99, 10}, {1, 60_000, 900}};
        Twins.illegalBeyond("plan of nothing", Mills::empty, (mill, n) -> mill.plan(n[0], n[1], n[2]), edges);
        Twins.illegalBeyond("plan", Mills::some, (mill, n) -> mill.plan(n[0], n[1], n[2]), edges);
        RollMill mill = line(1, FREE, 0, 60_000);
        Check.same("the least to itself", mill.plan(1, 1, 1), 0);
        Check.same("the most to itself", mill.plan(60_000, 99, 60_000), 0);
        passes(mill, 1);
        Check.same("the most to the least", mill.plan(60_000, 99, 1), 0);
    }

    /** NONE (what was kept stays): there is none, or no STAND. */
    private static void noPlan() {
        Twins.none("no stand", Mills::empty, mill -> mill.plan(1000, 10, 1000));
        Twins.none("out is neither in nor told", Mills::some, mill -> mill.plan(1000, 10, 910));
        Twins.none("out is above in", Mills::some, mill -> mill.plan(900, 10, 950));
        Twins.none("out is above in by one", Mills::some, mill -> mill.plan(949, 10, 950));
        Twins.none("the press is above most", Mills::some, mill -> mill.plan(20_000, 99, 900));
    }

    /** What was kept stays, also if there was a row to try. */
    private static void planKeptStays() {
        RollMill mill = line(2, 2000, 0, 60_000);
        mill.point(100, 1000);
        passes(mill, 900, 800, 700, 600);
        Check.same("a plan", mill.plan(1000, 10, 800), 1000);
        int[] due = {900, 1000, 890, 800, 1000, 790};
        for (int[] none : new int[][] {{1000, 99, 600}, {60_000, 10, 600}, {800, 10, 900}, {1000, 10, 850}}) {
            Check.none("none to " + none[2], mill.plan(none[0], none[1], none[2]));
            for (int i = 0; i < 6; i++) {
                Check.same("kept", mill.planned(i / 3, i % 3), due[i]);
            }
        }
        Check.same("another plan", mill.plan(1000, 10, 700), 2000);
        Check.same("is kept then", mill.planned(1, 0), 700);
    }

    /** To a THICKNESS that goes out at last (in itself or one told). */
    private static void outInOrTold() {
        RollMill mill = line(3, FREE, 0, 60_000);
        Check.same("in itself, without passes", mill.plan(500, 10, 500), 0);
        Check.none("one less", mill.plan(500, 10, 499));
        passes(mill, 499);
        Check.same("told", mill.plan(500, 10, 499), 0);
        Check.same("in itself, and told", mill.plan(499, 10, 499), 0);
        Check.same("it goes through all", mill.planned(0, 0) + mill.planned(1, 0) + mill.planned(2, 0), 3 * 499);
    }

    /** Twelve THICKNESSES, told in any order, and what goes in beside them. */
    private static void twelveAndIn() {
        RollMill mill = line(5, FREE, 0, 60_000);
        mill.point(100, 1000);
        int[] told = {700, 1200, 100, 900, 1100, 300, 600, 1000, 200, 800, 400, 500};
        passes(mill, told);
        int[] outs = {1250, 1000, 700, 400, 100};
        Check.same("from 1250 to 100 in five", mill.plan(1250, 10, 100), 3000);
        for (int s = 0; s < 5; s++) {
            Check.same("out of stand " + s, mill.planned(s, 0), outs[s]);
        }
        for (int out : told) {
            Check.holds("to each of them", mill.plan(1250, 10, out) > 0);
            Check.same("at last", mill.planned(4, 0), out);
            Check.same("from each to itself", mill.plan(out, 10, out), 0);
        }
    }

    /** None greater than that ahead. */
    private static void noneGreaterThanAhead() {
        RollMill mill = line(2, FREE, 0, 60_000);
        mill.point(100, 1000);
        passes(mill, 1000, 950, 901, 899, 800);
        Check.same("greater ones than in don't count", mill.plan(900, 10, 800), 990);
        Check.same("first", mill.planned(0, 0), 899);
        Check.same("then", mill.planned(1, 0), 800);
        Check.same("one as in is no step", mill.plan(901, 10, 899), 20);
        Check.same("in as long as may be", mill.planned(0, 0), 901);
    }

    /** PRESS(draft, its hardness), which must not be above MOST. */
    private static void pressNotAboveMost() {
        for (int most = 999; most <= 1001; most++) {
            RollMill mill = line(1, most, 0, 60_000);
            mill.point(100, 1000);
            passes(mill, 900);
            Check.same("a press of 1000, most " + most, mill.plan(1000, 10, 900), most < 1000 ? -1 : 1000);
        }
        RollMill mill = new RollMill();
        mill.stand(100, 1000, 0, 60_000, 1, 1, 500, 1);
        mill.stand(100, 1000, 0, 60_000, 1, 1, 500, 0);
        mill.point(100, 1000);
        passes(mill, 900, 800);
        Check.none("1100 behind the water", mill.plan(1000, 10, 800));
        Check.same("990 behind it", mill.plan(1000, 9, 800), 1000);
        Check.same("900 ahead of it", mill.planned(0, 1), 900);
    }

    /** Its hardness: behind each STAND that is more by its WATER, at most 99. */
    private static void hardnessOfAPlan() {
        for (int h : new int[] {80, 81, 82, 90, 99}) {
            RollMill mill = new RollMill();
            for (int s = 0; s < 3; s++) {
                mill.stand(100, FREE, 0, 60_000, 1, 1, 500, 9);
            }
            mill.point(100, 1000);
            passes(mill, 900, 800, 700);
            mill.plan(1000, h, 700);
            for (int s = 0; s < 3; s++) {
                Check.same("press of " + s, mill.planned(s, 1), 100 * Math.min(99, h + 9 * s));
            }
        }
    }

    /** Its gap: the greatest whole one from LOW to HIGH by which just that goes OUT; there must be one. */
    private static void gapFromLowToHigh() {
        for (int edge = 888; edge <= 892; edge++) {
            RollMill low = line(1, FREE, edge, 60_000);
            low.point(100, 1000);
            passes(low, 900);
            Check.same("low " + edge, low.plan(1000, 10, 900), edge <= 890 ? 1000 : -1);
            RollMill high = line(1, FREE, 0, edge);
            high.point(100, 1000);
            passes(high, 900);
            boolean there = high.bite(0, 1000, 10, 0) == 900 || edge > 890;
            Check.same("high " + edge, high.plan(1000, 10, 900), there ? 1000 : -1);
            if (there) {
                Check.same("its gap", high.planned(0, 2), Math.min(890, edge));
            }
        }
        RollMill only = line(1, FREE, 890, 890);
        only.point(100, 1000);
        passes(only, 900);
        Check.same("the only gap", only.plan(1000, 10, 900), 1000);
        Check.same("is the greatest", only.planned(0, 2), 890);
    }

    /** As it went in: the greatest gap is HIGH, if that goes OUT by it. */
    private static void gapOpen() {
        int[] highs = {998, 999, 1000, 1001, 60_000};
        for (int high : highs) {
            RollMill mill = line(1, FREE, 0, high);
            boolean stays = mill.bite(0, 1000, 10, 0) == 1000;
            Check.same("high " + high + " without points", mill.plan(1000, 10, 1000), stays ? 0 : -1);
            Check.same("high " + high, stays ? 1 : 0, high >= 1000 ? 1 : 0);
            if (stays) {
                Check.same("gap", mill.planned(0, 2), high);
            }
            RollMill hard = line(1, FREE, 0, high);
            hard.point(1, 150);
            boolean unpressed = hard.bite(0, 1000, 10, 0) == 1000;
            Check.same("high " + high + " of a hard strip", hard.plan(1000, 10, 1000), unpressed ? 0 : -1);
            Check.same("high " + high, unpressed ? 1 : 0, high >= 998 ? 1 : 0);
        }
        RollMill soft = line(1, FREE, 0, 997);
        soft.point(1, 150);
        Check.none("bitten at high", soft.plan(1000, 10, 1000));
    }

    /** From 1 up: to 1 goes what would be thinner. */
    private static void gapOfThinnest() {
        RollMill mill = line(1, FREE, 0, 60_000);
        passes(mill, 1, 2);
        Check.same("to 1", mill.plan(60_000, 10, 1), 0);
        Check.same("at a gap of 1", mill.planned(0, 2), 1);
        Check.same("1 to 1", mill.plan(1, 10, 1), 0);
        Check.same("open", mill.planned(0, 2), 60_000);
        mill.point(1, 1);
        Check.same("just 100 to 1", mill.plan(101, 10, 1), 100);
        Check.same("at a gap of 0", mill.planned(0, 2), 0);
        Check.none("101 to 1: the frame gives 100", mill.plan(102, 10, 1));
        RollMill flat = line(1, FREE, 0, 0);
        passes(flat, 1, 2);
        Check.same("a high of 0", flat.plan(2, 10, 1), 0);
        Check.same("its gap", flat.planned(0, 2), 0);
        Check.none("nothing stays 2", flat.plan(2, 10, 2));
    }

    /** Its gap by its WEAR as it is: 999 is no unit, 1000 is one. */
    private static void gapByItsWear() {
        for (int segments = 0; segments <= 2; segments++) {
            RollMill mill = new RollMill();
            mill.stand(999, FREE, 0, 60_000, 1, 1, 100, 0);
            mill.point(1, 100);
            mill.point(2, 99_900);
            mill.gap(0, 0);
            for (int i = 0; i < segments; i++) {
                mill.segment(150 - 100 * i, 10);
            }
            mill.run(1);
            int worn = segments == 2 ? 1 : 0;
            Check.same("wear", mill.standOf(0, 1), segments == 0 ? 0 : 998 + segments);
            passes(mill, 200, 100);
            Check.same("a press of 99900", mill.plan(202, 10, 200), 99_900);
            Check.same("its gap", mill.planned(0, 2), 100 - worn);
            Check.same("100 units of stretch, and none left", mill.plan(102, 10, 100), worn == 0 ? 99_900 : -1);
            mill.change(0);
            Check.same("by a new roll there is a gap", mill.plan(102, 10, 100), 99_900);
            Check.same("its gap", mill.planned(0, 2), 0);
        }
    }

    /** Where HIGH is the only gap, WEAR tells whether just that goes OUT. */
    private static void onlyGapByItsWear() {
        for (int segments = 1; segments <= 2; segments++) {
            RollMill mill = new RollMill();
            mill.stand(999, FREE, 0, 0, 1, 1, 100, 0);
            mill.point(1, 100);
            mill.point(2, 99_900);
            for (int i = 0; i < segments; i++) {
                mill.segment(150 - 100 * i, 10);
            }
            mill.run(1);
            passes(mill, 1);
            Check.same("a wear of 1000 holds 2 as it is", mill.plan(2, 10, 2), segments == 2 ? 0 : -1);
            Check.same("a wear of 999 presses it to 1", mill.plan(2, 10, 1), segments == 2 ? -1 : 100);
        }
    }

    /** Stiffness 1 to 999. */
    private static void stiffnessOfAPlan() {
        int[] stiffnesses = {1, 2, 39, 40, 41, 999};
        int[] gaps = {20, 40, 58, 59, 59, 59};
        for (int i = 0; i < stiffnesses.length; i++) {
            RollMill mill = new RollMill();
            mill.stand(stiffnesses[i], FREE, 0, 60_000, 1, 1, 100, 0);
            mill.point(1, 1);
            passes(mill, 60);
            Check.same("a press of 40", mill.plan(100, 10, 60), 40);
            Check.same("stretched by stiffness " + stiffnesses[i], mill.planned(0, 2), gaps[i]);
        }
    }

    /** Of like ones the least sum of presses, of like ones the greater one ahead. */
    private static void bestOfLikePlans() {
        RollMill mill = line(2, FREE, 0, 60_000);
        mill.point(100, 1000);
        mill.point(200, 2001);
        passes(mill, 950, 900, 850, 800);
        Check.same("100 and 100", mill.plan(1000, 10, 800), 1000);
        Check.same("in the middle", mill.planned(0, 0), 900);
        Check.same("100 by one, by 50 and 50 is as much in all, and less at most", mill.plan(1000, 10, 900), 500);
        Check.same("so 50 and 50", mill.planned(0, 0), 950);
        RollMill sums = line(2, FREE, 0, 60_000);
        sums.point(10, 1000);
        sums.point(200, 1001);
        passes(sums, 995, 990, 900, 800);
        Check.same("1001 for 200 at once: at most 1000 by any other", sums.plan(1000, 10, 800), 1000);
        Check.same("500 and 1000 is less in all than 1000 and 1000", sums.planned(0, 0), 995);
        RollMill later = line(2, FREE, 0, 60_000);
        later.point(10, 1000);
        later.point(200, 1001);
        passes(later, 990, 900, 805, 800);
        Check.same("at most 1000 by each", later.plan(1000, 10, 800), 1000);
        Check.same("1000 and 500 is less in all, though the first one goes farther", later.planned(0, 0), 805);
        RollMill like = line(3, FREE, 0, 60_000);
        passes(like, 900, 800);
        Check.same("all for nothing", like.plan(1000, 10, 800), 0);
        Check.same("the greater one ahead", like.planned(0, 0), 1000);
        Check.same("and then", like.planned(1, 0), 1000);
        Check.same("at last", like.planned(2, 0), 800);
    }

    /** Promise 22: NoSuchElementException, also another what, none is kept, a STAND that came later. */
    private static void plannedEdges() {
        for (int what : new int[] {-1, 3, MIN, MAX}) {
            Twins.noSuch("planned " + what, Mills::some, mill -> mill.planned(0, what));
        }
        Twins.noSuch("none is kept", Mills::empty, mill -> mill.planned(0, 0));
        RollMill mill = line(2, FREE, 0, 60_000);
        for (int what = 0; what < 3; what++) {
            int asked = what;
            Check.noSuch("none is kept", () -> mill.planned(0, asked));
        }
        Check.none("none found", mill.plan(5, 5, 4));
        Check.noSuch("none is kept still", () -> mill.planned(0, 0));
        Check.same("found", mill.plan(5, 5, 5), 0);
        Check.same("kept", mill.planned(1, 0), 5);
        mill.stand(100, FREE, 0, 60_000, 1, 1, 500, 0);
        Check.noSuch("a stand that came later", () -> mill.planned(2, 0));
        Check.same("those ahead are told", mill.planned(1, 2), 60_000);
        Check.none("none found", mill.plan(5, 5, 4));
        Check.noSuch("it still came later", () -> mill.planned(2, 0));
        Check.same("found anew", mill.plan(6, 6, 6), 0);
        Check.same("now it is told", mill.planned(2, 0), 6);
    }

    private static long three(int first, int second, int third) {
        return first | (long) second << 17 | (long) third << 34;
    }

    private static long fits(RollMill mill, int many, int first, int second, int e) {
        return mill.fits(0, many, three(first, second, 0), 0, 0, 0, e, 1000, 1000) ? 1 : 0;
    }

    private static RollMill turning() {
        return line(1, FREE, 0, 60_000);
    }

    /** Promise 23: IllegalArgumentException, many is not 2 to 10. */
    private static void manyMarks() {
        long a = three(0, 500, 1000);
        long b = three(1500, 2000, 2500);
        long c = three(3000, 3500, 4000);
        for (int many : new int[] {1, 11, 0, -1, MIN, MAX}) {
            Twins.illegal(many + " marks", Mills::full, mill -> mill.fits(0, many, a, b, c, 4500, 0, 1, 1) ? 1 : 0);
        }
        for (int many = 2; many <= 10; many++) {
            int told = many;
            Twins.asks(many + " marks", Mills::full, mill -> mill.fits(0, told, a, b, c, 4500, 0, 1, 1) ? 1 : 0, 1);
        }
        Twins.asks("the tenth is off", Mills::full, mill -> mill.fits(0, 10, a, b, c, 4501, 0, 1, 1) ? 1 : 0, 0);
        Twins.asks("the tenth doesn't count", Mills::full, mill -> mill.fits(0, 9, a, b, c, 4501, 0, 1, 1) ? 1 : 0, 1);
        Twins.asks("other bits of d don't count", Mills::full, mill -> mill.fits(0, 10, a, b, c, -1L << 17 | 4500, 0, 1, 1) ? 1 : 0, 1);
        Twins.asks("other bits of a, b, c don't count", Mills::full,
                mill -> mill.fits(0, 9, a | -1L << 51, b | -1L << 51, c | -1L << 51, -1, 0, 1, 1) ? 1 : 0, 1);
    }

    /** An eleventh one would have its place in d. */
    private static void elevenMarks() {
        long d = three(4500, 5000, 5500);
        Twins.illegal("eleven marks that fit", Mills::full,
                mill -> mill.fits(0, 11, three(0, 500, 1000), three(1500, 2000, 2500), three(3000, 3500, 4000), d, 0, 1, 1) ? 1 : 0);
        Twins.illegal("twelve marks that fit", Mills::full,
                mill -> mill.fits(0, 12, three(0, 500, 1000), three(1500, 2000, 2500), three(3000, 3500, 4000), d, 0, 1, 1) ? 1 : 0);
        Twins.illegal("one mark", Mills::full, mill -> mill.fits(0, 1, three(0, 500, 1000), 0, 0, 0, 0, 1, 1) ? 1 : 0);
    }

    /** IllegalArgumentException: places are not as told (0 to 99,999, rising). */
    private static void placesAsTold() {
        Check.same("0 and 99999", fits(turning(), 2, 0, 99_999, 1), 1);
        Check.same("99998 and 99999", fits(turning(), 2, 99_998, 99_999, 499), 1);
        Twins.illegal("100000", Mills::full, mill -> fits(mill, 2, 0, 100_000, 0));
        Twins.illegal("131071", Mills::full, mill -> fits(mill, 2, 0, 131_071, 0));
        Twins.illegal("the first one is 100000", Mills::full, mill -> fits(mill, 2, 100_000, 131_071, 0));
        Twins.illegal("alike", Mills::full, mill -> fits(mill, 2, 500, 500, MAX));
        Twins.illegal("both 0", Mills::full, mill -> fits(mill, 2, 0, 0, MAX));
        Twins.illegal("falling", Mills::full, mill -> fits(mill, 2, 501, 500, MAX));
        Twins.illegal("the third one falls", Mills::full, mill -> fits(mill, 3, 0, 500, MAX));
        Twins.illegal("it falls behind one that doesn't fit", Mills::full, mill -> fits(mill, 3, 0, 77, 0));
        Twins.illegal("the tenth falls", Mills::full,
                mill -> mill.fits(0, 10, three(1, 2, 3), three(4, 5, 6), three(7, 8, 9), 9, 0, 1, 1) ? 1 : 0);
        Twins.illegal("the tenth is 100000", Mills::full,
                mill -> mill.fits(0, 10, three(1, 2, 3), three(4, 5, 6), three(7, 8, 9), 100_000, 0, 1, 1) ? 1 : 0);
        Check.same("rising by 1", turning().fits(0, 10, three(1, 2, 3), three(4, 5, 6), three(7, 8, 9), 10, 499, 1, 1) ? 1 : 0, 1);
    }

    /** E is below 0, x or y no thickness. */
    private static void marksNumbers() {
        int[][] edges = {{0, MAX, 5}, {1, 60_000, 1000}, {1, 60_000, 1000}};
        Twins.illegalBeyond("fits", Mills::some, (mill, n) -> mill.fits(1, 2, 900L << 17, 0, 0, 0, n[0], n[1], n[2]) ? 1 : 0, edges);
        Twins.illegalBeyond("fits", Mills::full, (mill, n) -> mill.fits(4, 2, 900L << 17, 0, 0, 0, n[0], n[1], n[2]) ? 1 : 0, edges);
    }

    /** No further than e from some whole number (from 1 on) of times TURN. */
    private static void fromOneTurnOn() {
        RollMill mill = turning();
        Check.same("0 turns don't count", fits(mill, 2, 0, 1, 498), 0);
        Check.same("from 1 on", fits(mill, 2, 0, 1, 499), 1);
        Check.same("just a turn", fits(mill, 2, 7, 507, 0), 1);
        int[] far = {490, 495, 505, 510, 990, 995, 1005, 1010};
        for (int place : far) {
            int off = Math.min(Math.abs(place - 500), Math.abs(place - 1000));
            Check.same("no further than e", fits(mill, 2, 0, place, off), 1);
            Check.same("further", fits(mill, 2, 0, place, off - 1), 0);
        }
        Check.same("half a turn behind the second", fits(mill, 2, 0, 1250, 250), 1);
        Check.same("not by less", fits(mill, 2, 0, 1250, 249), 0);
        Check.same("the last turn", fits(mill, 2, 0, 99_500, 0), 1);
        Check.same("the greatest e", fits(mill, 2, 0, 99_999, MAX), 1);
    }

    /** Times TURN times x by y (exactly). */
    private static void exactly() {
        RollMill mill = turning();
        int[][] rows = {{166, 0, 1, 3, 0}, {167, 0, 1, 3, 0}, {166, 1, 1, 3, 1}, {167, 1, 1, 3, 1}, {165, 1, 1, 3, 0}, {168, 1, 1, 3, 0},
            {333, 0, 1, 3, 0}, {334, 1, 1, 3, 1}, {500, 0, 1, 3, 1}, {1000, 0, 2, 1, 1}, {999, 0, 2, 1, 0}, {999, 1, 2, 1, 1},
            {500, 499, 2, 1, 0}, {500, 500, 2, 1, 1}, {1, 0, 1, 500, 1}, {1, 0, 1, 60_000, 1}, {1, 0, 1, 59_999, 0}, {1, 1, 1, 59_999, 1},
            {99_999, 29_900_000, 60_000, 1, 0}, {99_999, 29_900_001, 60_000, 1, 1}, {500, 0, 60_000, 60_000, 1}, {501, 0, 60_000, 60_000, 0},
            {500, 0, 59_999, 60_000, 0}, {500, 1, 59_999, 60_000, 1}};
        for (int[] row : rows) {
            boolean fits = mill.fits(0, 2, (long) row[0] << 17, 0, 0, 0, row[1], row[2], row[3]);
            Check.same(row[0] + " within " + row[1] + " of turns of 500 times " + row[2] + " by " + row[3], fits ? 1 : 0, row[4]);
        }
        RollMill turns = new RollMill();
        turns.stand(1, 1, 0, 0, 1, 1, 100, 0);
        turns.stand(1, 1, 0, 0, 1, 1, 4000, 0);
        Check.holds("the shortest roll", turns.fits(0, 2, 300L << 17, 0, 0, 0, 0, 5, 5));
        Check.holds("the longest roll", !turns.fits(1, 2, 300L << 17, 0, 0, 0, 3699, 5, 5));
        Check.holds("the longest roll", turns.fits(1, 2, 300L << 17, 0, 0, 0, 3700, 5, 5));
    }

    /** Promise 24: IllegalArgumentException, one is no thickness, h, b, n (0 to 1000) not as told. */
    private static void slicesNumbers() {
        int[][] edges = {{1, 60_000, 500}, {1, 60_000, 500}, {1, 60_000, 500}, {1, 60_000, 500}, {1, 60_000, 500}, {1, 99, 10},
            {-999, 999, 0}, {0, 1000, 5}};
        Twins.illegalBeyond("waves", Mills::some, (mill, n) -> mill.waves(1, n[0], n[1], n[2], n[3], n[4], n[5], n[6], n[7]), edges);
        Twins.illegalBeyond("waves", Mills::full, (mill, n) -> mill.waves(4, n[0], n[1], n[2], n[3], n[4], n[5], n[6], n[7]), edges);
    }

    /** All that goes in is 10000: a slice is in the waves if less went out there than elsewhere. */
    private static int wavesOf(int gap, int b, int n) {
        RollMill mill = turning();
        mill.gap(0, gap);
        return mill.waves(0, 10_000, 10_000, 10_000, 10_000, 10_000, 10, b, n);
    }

    /** More by 4 b, b, 0, b, 4 b, by 10, cut towards 0 (at least 0). */
    private static void bendEdges() {
        int[] bends = {0, 1, 2, 3, 9, 10, -1, -2, -3, -9, -10};
        int[] due = {0, 0, 0, 14, 14, 14, 0, 0, 17, 17, 17};
        for (int i = 0; i < bends.length; i++) {
            Check.same("bend " + bends[i], wavesOf(1000, bends[i], 0), due[i]);
        }
        // By 300 in 1000 the edges' 399 and the 99 beside the middle can be told apart.
        Check.same("the most: 1399, 1099, 1000", wavesOf(1000, 999, 199), 4);
        Check.same("1399, 1099, 1000 to 5996 by 5", wavesOf(1000, 999, 200), 0);
        Check.same("the least: 601, 901, 1000", wavesOf(1000, -999, 331), 17);
        Check.same("601, 901, 1000 to 4004 by 5", wavesOf(1000, -999, 333), 0);
        Check.same("at least 0: 1, 1, 100, 1, 1", wavesOf(100, -999, 1000), 27);
        Check.same("at least 0, and the next 1", wavesOf(100, -999, 0), 27);
        Check.same("0 everywhere", wavesOf(0, -999, 0), 0);
        Check.same("399, 99 and 0: 1000 by 99 to 5000 by 997, twice as much", wavesOf(0, 999, 1000), 14);
    }

    /** At least 0: what is pressed to a half at a gap of 0 would be more at 1, less at -1. */
    private static void bentToLeast0() {
        RollMill mill = turning();
        mill.point(1, 100);
        mill.gap(0, 10);
        Check.same("1000 to 500, and not to 501", mill.waves(0, 1000, 1000, 2000, 1000, 1000, 10, -999, 1), 27);
        Check.same("by no more", mill.waves(0, 1000, 1000, 2000, 1000, 1000, 10, -999, 2), 0);
        Check.same("1001 to 501, and not to 500", mill.waves(0, 1001, 1001, 1001, 1001, 1001, 10, -999, 2), 0);
        Check.same("by less", mill.waves(0, 1001, 1001, 1001, 1001, 1001, 10, -999, 1), 27);
        mill.gap(0, 0);
        Check.same("at a gap of 0 a bend down is none", mill.waves(0, 1001, 1000, 999, 998, 997, 10, -999, 0),
                mill.waves(0, 1001, 1000, 999, 998, 997, 10, 0, 0));
    }

    /** Greater than that of all five together by more than n in 1000 of the latter (exactly). */
    private static void waveEdges() {
        RollMill mill = turning();
        mill.gap(0, 500);
        int[] firsts = {1000, 1001, 1010, 1100, 2000};
        for (int first : firsts) {
            for (int n = 0; n <= 1000; n++) {
                boolean more = 1000L * first * 5 > (1000L + n) * (first + 4000);
                Check.same("first " + first + " by " + n, mill.waves(0, first, 1000, 1000, 1000, 1000, 10, 0, n), more ? 1 : 0);
            }
        }
        mill.gap(0, 60_000);
        Check.same("all open: none is greater", mill.waves(0, 60_000, 1, 500, 7, 60_000, 99, 999, 0), 0);
        mill.gap(0, 0);
        Check.same("each to 1: 60000 to 60004 by 5", mill.waves(0, 60_000, 1, 1, 1, 1, 99, 0, 1000), 1);
        Check.same("each slice has its bit", mill.waves(0, 1, 60_000, 1, 60_000, 1, 99, 0, 1000), 10);
        Check.same("just by n", mill.waves(0, 3, 1, 1, 2, 3, 99, 0, 500), 0);
        Check.same("by more than n", mill.waves(0, 3, 1, 1, 2, 3, 99, 0, 499), 17);
    }
}
