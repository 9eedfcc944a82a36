import java.util.Arrays;
import java.util.function.Supplier;

/** Promises 12 to 19 at their edges, sentence by sentence: coils, runs and what is asked of them. */
public final class RunEdgesTest {
    private static final int MIN = Integer.MIN_VALUE;
    private static final int MAX = Integer.MAX_VALUE;
    private static final int FREE = 9_999_999;

    public static void main(String[] args) {
        coil();
        segmentNumbers();
        fortySegments();
        aims();
        doneAtOnce();
        ticksOfARun();
        doneBehindTheLastTick();
        hardnessAtMost();
        pressAboveMost();
        brokenInTheFirstTick();
        wearGoesOn();
        wornInAllCalls();
        pullCutTowards0();
        pullIfBothBit();
        tearEdges();
        tearOrLoopAlone();
        loopEdges();
        pullsWithoutRules();
        firstPullCounts();
        gaugeLate();
        gaugeByOneAlone();
        gaugeDrift();
        valuesWithoutABite();
        valuesOfTheRun();
        latestRun();
        pullsAtTheBeginning();
        screws();
        withinLowAndHigh();
        lengths();
        lostEdges();
        neverCameOut();
        ranEdges();
        outEdges();
        gaugeEdges();
        pullEdges();
        noRun();
        Check.end("RunEdgesTest");
    }

    private static RollMill line(int... speeds) {
        RollMill mill = new RollMill();
        for (int speed : speeds) {
            mill.stand(999, FREE, 0, 60_000, 60_000, speed, 100, 0);
        }
        return mill;
    }

    private static void tell(RollMill mill, int... thicknesses) {
        mill.coil();
        for (int i = 0; i < thicknesses.length; i++) {
            Check.same("segment", mill.segment(thicknesses[i], 10), i + 1);
        }
    }

    private static int[] alike(int many, int thickness) {
        int[] all = new int[many];
        Arrays.fill(all, thickness);
        return all;
    }

    /** Promise 12: the COIL at hand has no SEGMENTS (no RUN is told of any more). */
    private static void coil() {
        RollMill empty = new RollMill();
        empty.coil();
        Check.holds("a new object's coil is empty", Seen.of(empty).equals(Seen.of(new RollMill())));
        RollMill mill = Mills.full();
        mill.coil();
        Check.same("no segments", mill.count(3), 0);
        Check.noSuch("no run", () -> mill.ran(0));
        Check.noSuch("no segment 0", () -> mill.out(0, 0));
        Check.same("gaps stay", mill.standOf(0, 0), 860);
        Check.same("wear stays", mill.standOf(0, 1), 647);
        Check.same("done at once", mill.run(5), 0);
        mill.coil();
        Check.noSuch("of an empty coil, too", () -> mill.ran(0));
        Check.same("the next segment is the first", mill.segment(1, 1), 1);
    }

    /** Promise 13: NONE, a number is not as told. */
    private static void segmentNumbers() {
        int[][] edges = {{1, 60_000, 500}, {1, 99, 10}};
        Twins.noneBeyond("the first segment", Mills::empty, (mill, n) -> mill.segment(n[0], n[1]), edges);
        Twins.noneBeyond("the fourth segment", Mills::some, (mill, n) -> mill.segment(n[0], n[1]), edges);
        RollMill mill = Mills.some();
        Check.none("refused", mill.segment(0, 5));
        Check.same("the run is told", mill.ran(0), 4);
        Check.same("taken", mill.segment(5, 5), 4);
        Check.noSuch("no run is told any more", () -> mill.ran(0));
    }

    /** NONE: there are 40. */
    private static void fortySegments() {
        RollMill mill = new RollMill();
        for (int i = 1; i <= 40; i++) {
            Check.same("how many", mill.segment(60_000, 99), i);
        }
        Check.none("the 41st", mill.segment(60_000, 99));
        Check.same("forty", mill.count(3), 40);
        Twins.none("the 41st, of a run", Mills::full, full -> full.segment(1, 1));
    }

    /** Promise 14: IllegalArgumentException, the AIM is no thickness. */
    private static void aims() {
        int[][] edges = {{1, 60_000, 500}};
        Twins.illegalBeyond("run of nothing", Mills::empty, (mill, n) -> mill.run(n[0]), edges);
        Twins.illegalBeyond("run", Mills::some, (mill, n) -> mill.run(n[0]), edges);
        Twins.illegalBeyond("run of all", Mills::full, (mill, n) -> mill.run(n[0]), edges);
    }

    /** DONE of no STANDS, no SEGMENTS at once. */
    private static void doneAtOnce() {
        for (int stands = 0; stands <= 5; stands++) {
            RollMill mill = line(alike(stands, 10));
            for (int i = 0; i < (stands == 0 ? 40 : 0); i++) {
                mill.segment(1000, 5);
            }
            Check.rules(mill, stands == 0 ? "" : "stand 0 gap 5;");
            Check.same("done", mill.run(1), 0);
            Check.same("no ticks begun", mill.ran(0), 0);
            Check.none("nothing broke", mill.ran(1));
            Check.same("no press, nothing came out, no lengths", mill.ran(2) + mill.ran(3) + mill.ran(4), 0);
            Check.noSuch("no tick for a gauge", () -> mill.gauge(0));
            Check.same("all are lost at the head", mill.lost(false, MAX), stands == 0 ? 40 : 0);
            Check.same("all are lost at the tail", mill.lost(true, 0), stands == 0 ? 40 : 0);
            for (int s = 0; s < stands; s++) {
                Check.same("its gap stays", mill.standOf(s, 0), 60_000);
                Check.same("no pull", mill.pull(s), 0);
            }
        }
    }

    /** In TICK t STAND s BITES SEGMENT t less s, if there is such a one. */
    private static void ticksOfARun() {
        for (int stands = 1; stands <= 5; stands++) {
            for (int segments : new int[] {1, 2, 39, 40}) {
                RollMill mill = line(alike(stands, 10));
                tell(mill, alike(segments, 1000));
                Check.same("done", mill.run(1000), 0);
                int ticks = stands + segments - 1;
                Check.same("ticks", mill.ran(0), ticks);
                Check.same("all came out", mill.ran(3), segments);
                Check.same("gauge of the first one", mill.gauge(stands - 1), 1000);
                Check.same("gauge ahead of it", stands == 1 ? 0 : mill.gauge(stands - 2), 0);
                Check.same("gauge of the last tick", mill.gauge(ticks - 1), 1000);
                Check.noSuch("a tick not begun", () -> mill.gauge(ticks));
                Check.same("out of the last stand", mill.out(stands - 1, segments - 1), 1000);
            }
        }
    }

    /** The RUN is DONE behind the TICK in which the last STAND BIT the last SEGMENT. */
    private static void doneBehindTheLastTick() {
        RollMill mill = line(10, 10, 10);
        tell(mill, 1000, 1000);
        Check.rules(mill, "stand 0 gap 5000+tick;stand 1 gap 6000+in;stand 2 gap 7000+in+tick;");
        Check.same("done", mill.run(1), 0);
        Check.same("stand 0 moves in the last tick, too", mill.standOf(0, 0), 5003);
        Check.same("stand 1 bit nothing then", mill.standOf(1, 0), 6000);
        Check.same("stand 2 bit the last one", mill.standOf(2, 0), 8003);
    }

    /** Its hardness: behind each STAND that is more by its WATER, at most 99. */
    private static void hardnessAtMost() {
        int[] hardnesses = {1, 89, 90, 91, 98, 99};
        for (int water : new int[] {0, 1, 9}) {
            for (int h : hardnesses) {
                RollMill mill = new RollMill();
                for (int s = 0; s < 5; s++) {
                    mill.stand(999, FREE, 0, 60_000, 60_000, 10, 100, s == 4 ? 9 : water);
                }
                mill.segment(1000, h);
                Check.rules(mill, "stand 0 gap 100+hard unless hard=0;stand 1 gap 100+hard unless hard=0;stand 2 gap 100+hard unless hard=0;"
                        + "stand 3 gap 100+hard unless hard=0;stand 4 gap 100+hard unless hard=0;");
                mill.run(1);
                for (int s = 0; s < 5; s++) {
                    Check.same("hardness as it goes in at stand " + s, mill.standOf(s, 0) - 100, Math.min(99, h + s * water));
                }
            }
        }
    }

    /** A STAND whose press is above MOST BREAKS: nothing goes OUT there, no WEAR. */
    private static void pressAboveMost() {
        for (int most = 499; most <= 501; most++) {
            RollMill mill = new RollMill();
            mill.stand(999, FREE, 0, 60_000, 1, 10, 100, 0);
            mill.stand(999, most, 0, 60_000, 1, 10, 100, 0);
            mill.stand(999, FREE, 0, 60_000, 1, 10, 100, 0);
            mill.point(50, 500);
            mill.gap(1, 949);
            tell(mill, 900, 1000, 700);
            boolean breaks = most < 500;
            Check.same("run with most " + most, mill.run(1000), breaks ? 1 : 0);
            Check.same("ticks begun", mill.ran(0), breaks ? 3 : 5);
            Check.same("who broke", mill.ran(1), breaks ? 1 : -1);
            Check.same("the greatest press, of one that broke, too", mill.ran(2), 500);
            Check.same("what came out", mill.ran(3), breaks ? 0 : 3);
            Check.same("out of it", mill.out(1, 1), breaks ? -1 : 950);
            Check.same("out of it ahead", mill.out(1, 0), 900);
            Check.same("its wear", mill.standOf(1, 1), breaks ? 0 : 5);
            Check.same("stand 0 bit ahead of it", mill.out(0, 2), 700);
            Check.same("stand 2 bites no more", mill.out(2, 0), breaks ? -1 : 900);
        }
    }

    /** The RUN ends at once. */
    private static void brokenInTheFirstTick() {
        RollMill mill = new RollMill();
        mill.stand(999, 499, 0, 60_000, 60_000, 10, 100, 0);
        mill.stand(999, 499, 0, 60_000, 60_000, 10, 100, 0);
        mill.point(50, 500);
        mill.gap(0, 949);
        tell(mill, 1000);
        Check.rules(mill, "stand 0 gap 7;stand 1 gap 7;");
        Check.same("broken", mill.run(1000), 1);
        Check.same("in the first tick", mill.ran(0), 1);
        Check.same("the first stand", mill.ran(1), 0);
        Check.same("its press", mill.ran(2), 500);
        Check.none("nothing went out", mill.out(0, 0));
        Check.noSuch("it ended ahead of the gauge", () -> mill.gauge(0));
        Check.same("no gap moves", mill.standOf(0, 0), 949);
        Check.same("nor the other one", mill.standOf(1, 0), 60_000);
        Check.same("no pull", mill.pull(0), 0);
        Check.same("lost", mill.lost(false, 60_000), 1);
    }

    /** Gaps, WEAR go on from what they are. */
    private static void wearGoesOn() {
        RollMill mill = new RollMill();
        mill.stand(999, FREE, 0, 60_000, 5, 10, 100, 0);
        mill.point(50, 500);
        mill.gap(0, 949);
        tell(mill, 1000, 1000);
        Check.rules(mill, "stand 0 gap 60000 unless tick=0;");
        for (int i = 1; i <= 20; i++) {
            int ahead = mill.standOf(0, 1);
            mill.run(1);
            Check.same("gap", mill.standOf(0, 0), 949 + 5 * i);
            Check.same("wear", mill.standOf(0, 1) - ahead, 2 * (mill.ran(2) / 100));
        }
    }

    /** An object is used for at most 512 calls: as far as they can wear a roll. */
    private static void wornInAllCalls() {
        RollMill mill = new RollMill();
        mill.stand(100, FREE, 0, 60_000, 60_000, 10, 100, 0);
        mill.point(1, 10_000);
        mill.gap(0, 0);
        for (int i = 0; i < 40; i++) {
            mill.segment(60_000, 10);
        }
        int runs = 0;
        for (int i = 0; i < 460; i++) {
            runs += mill.run(1) == 0 ? 1 : 0;
        }
        Check.same("each run is done", runs, 460);
        Check.holds("worn till pressed no more", mill.standOf(0, 1) / 1000 >= 59_900);
        Check.same("nothing to press", mill.bite(0, 60_000, 10, 1), 0);
        Check.same("it goes out as it went in", mill.bite(0, 60_000, 10, 0), 60_000);
    }

    /** What pull was at the end of tick 1, in which both BIT. */
    private static int pullOf(int speed0, int speed1, int in, int out) {
        RollMill mill = line(speed0, speed1);
        tell(mill, in, out);
        Check.rules(mill, "stand 0 gap 30000+pull unless not tick=1;");
        Check.same("done", mill.run(1), 0);
        return mill.standOf(0, 0) - 30_000;
    }

    /** By 1000, cut towards 0. */
    private static void pullCutTowards0() {
        int[] parts = {0, 999, 1000, 1001, 1999, 2000};
        for (int part : parts) {
            Check.same("pull of " + part, pullOf(1, 2, part + 1, part + 2), part / 1000);
            Check.same("push of " + part, pullOf(2, 1, 2 * part + 2, part + 1 + part / 2), (2 * part + 2 - 2 * (part + 1 + part / 2)) / 1000);
        }
        Check.same("just below 0 less 1", pullOf(1, 1, 1, 1001), -1);
        Check.same("just above 0 less 1", pullOf(1, 1, 2, 1001), 0);
        Check.same("just 1", pullOf(1, 1, 1001, 1), 1);
        Check.same("just below 1", pullOf(1, 1, 1000, 1), 0);
        Check.same("the least and the most", pullOf(1, 999, 30_000, 1), 29_969);
        Check.same("the other way", pullOf(999, 1, 1, 30_000), -29_969);
    }

    /** If both BIT; if one didn't, it is 0. */
    private static void pullIfBothBit() {
        RollMill one = line(1, 999);
        Check.rules(one, "tear 0;loop 0;");
        tell(one, 60_000);
        Check.same("one segment is never at both", one.run(1), 0);
        RollMill two = line(1, 999);
        tell(two, 60_000, 60_000);
        Check.rules(two, "stand 0 gap 10+tick unless not pull=0;stand 1 gap 10+tick unless pull=0;");
        Check.same("done", two.run(1), 0);
        Check.same("0 when stand 0 bites no more", two.standOf(0, 0), 12);
        Check.same("0 behind the last one", two.standOf(1, 0), 60_000);
        Check.same("0 at the end", two.pull(0), 0);
    }

    /** If a PULL is above 'tear', the strip TEARS. */
    private static void tearEdges() {
        for (int tear = 0; tear <= 21; tear++) {
            RollMill mill = line(10, 20);
            tell(mill, 1000, 1000, 1000);
            Check.rules(mill, "loop 0;tear " + tear + ";");
            boolean tears = tear < 20;
            Check.same("with tear " + tear, mill.run(1), tears ? 2 : 0);
            Check.same("behind stand", mill.ran(1), tears ? 0 : -1);
            Check.same("ticks begun", mill.ran(0), tears ? tear < 10 ? 2 : 3 : 4);
            Check.same("pull", mill.pull(0), tears ? tear < 10 ? 10 : 20 : 0);
        }
        RollMill still = line(10, 10);
        tell(still, 1000, 1000, 1000);
        Check.rules(still, "tear 0;loop 0;");
        Check.same("a pull of 0 is not above 0, nor below", still.run(1), 0);
    }

    /** 'Tear', 'late' and 'drift' tell nothing of 'loop', nor it of 'tear'. */
    private static void tearOrLoopAlone() {
        RollMill back = line(20, 10);
        tell(back, alike(9, 1000));
        RollMill forth = line(10, 20);
        tell(forth, alike(9, 1000));
        for (int number = 0; number <= 9; number++) {
            for (String word : new String[] {"late ", "drift ", "tear "}) {
                Check.rules(back, word + number + ";");
                Check.same(word + number + " does not loop", back.run(1), 0);
            }
            for (String word : new String[] {"late ", "drift ", "loop "}) {
                Check.rules(forth, word + number + ";");
                Check.same(word + number + " does not tear", forth.run(1), 0);
            }
        }
    }

    /** Below 0 less 'loop', it LOOPS. */
    private static void loopEdges() {
        for (int loop = 0; loop <= 21; loop++) {
            RollMill mill = line(20, 10);
            tell(mill, 1000, 1000, 1000);
            Check.rules(mill, "tear 0;loop " + loop + ";");
            boolean loops = loop < 20;
            Check.same("with loop " + loop, mill.run(1), loops ? 3 : 0);
            Check.same("behind stand", mill.ran(1), loops ? 0 : -1);
            Check.same("ticks begun", mill.ran(0), loops ? loop < 10 ? 2 : 3 : 4);
            Check.same("pull", mill.pull(0), loops ? loop < 10 ? -10 : -20 : 0);
        }
    }

    /** Tear 99999, loop 99999 without. */
    private static void pullsWithoutRules() {
        int[] last = {40_002, 40_000};
        for (int i = 0; i < 2; i++) {
            RollMill mill = line(499, 999);
            tell(mill, 40_000, 40_000, 40_000, 40_000, 40_000, last[i]);
            Check.same("a pull of " + (99_999 + i), mill.run(1), 2 * i);
            Check.same("at the end", mill.pull(0), 100_000 * i);
            RollMill back = line(999, 499);
            tell(back, 40_000, 40_000, 40_000, 40_000, 40_000, i == 0 ? 39_999 : 40_000);
            Check.same("a pull of -" + (99_999 + i), back.run(1), 3 * i);
            Check.same("at the end", back.pull(0), -100_000 * i);
        }
    }

    /** STANDS from 0 on, the first one. */
    private static void firstPullCounts() {
        int[][] speeds = {{10, 10, 10, 20, 30}, {10, 20, 30, 40, 50}, {10, 10, 20, 20, 40}, {10, 10, 10, 10, 5}};
        int[] stands = {2, 0, 1, 3};
        for (int i = 0; i < 4; i++) {
            RollMill mill = line(speeds[i]);
            tell(mill, alike(9, 1000));
            Check.rules(mill, "tear 24;loop 9;");
            Check.same("torn or looped", mill.run(1), i == 3 ? 3 : 2);
            Check.same("behind stand", mill.ran(1), stands[i]);
        }
        RollMill both = line(20, 10, 30);
        tell(both, alike(5, 1000));
        Check.rules(both, "tear 19;loop 19;");
        Check.same("stand 0 loops ahead of stand 1, that tears in the same tick", both.run(1), 3);
        Check.same("behind stand 0", both.ran(1), 0);
        Check.same("its pull", both.pull(0), -20);
        Check.same("the other pull", both.pull(1), 20);
        RollMill torn = line(10, 20, 1);
        tell(torn, alike(5, 1000));
        Check.rules(torn, "tear 19;loop 18;");
        Check.same("stand 0 tears ahead of stand 1, that loops in the same tick", torn.run(1), 2);
        Check.same("behind stand 0", torn.ran(1), 0);
        Check.same("the other pull", torn.pull(1), -19);
    }

    /** What went OUT of the last STAND 'late' TICKS ago; 0, if none did then. */
    private static void gaugeLate() {
        for (int stands = 1; stands <= 5; stands += 4) {
            for (int late = 0; late <= 9; late++) {
                RollMill mill = line(alike(stands, 10));
                int[] thicknesses = new int[12];
                for (int i = 0; i < 12; i++) {
                    thicknesses[i] = 1000 + i;
                }
                tell(mill, thicknesses);
                Check.rules(mill, "late " + late + ";drift 0;");
                mill.run(1);
                for (int t = 0; t < stands + 11; t++) {
                    int segment = t - late - stands + 1;
                    Check.same("late " + late + ", tick " + t, mill.gauge(t), segment < 0 ? 0 : 1000 + segment);
                }
            }
        }
    }

    /** No drift by 'late' alone, and none late by 'drift' alone. */
    private static void gaugeByOneAlone() {
        RollMill mill = line(10);
        tell(mill, alike(40, 1000));
        Check.rules(mill, "late 9;");
        mill.run(1);
        Check.same("late without drift", mill.gauge(39), 1000);
        Check.same("but late", mill.gauge(8), 0);
        Check.rules(mill, "drift 9;");
        mill.run(1);
        Check.same("drift without late", mill.gauge(0), 1000);
        Check.same("but drift", mill.gauge(39), 1035);
        for (String others : new String[] {"tear 30;", "loop 30;", "tear 9;loop 99999;"}) {
            Check.rules(mill, others);
            mill.run(1);
            Check.same("neither by " + others, mill.gauge(39), 1000);
            Check.same("neither by " + others, mill.gauge(0), 1000);
        }
    }

    /** And 'drift' times this TICK's number by 10, cut down, more. */
    private static void gaugeDrift() {
        for (int drift : new int[] {0, 1, 9, 10, 11, 99_999}) {
            RollMill mill = line(10);
            tell(mill, alike(40, 1000));
            Check.rules(mill, "drift " + drift + ";");
            mill.run(1);
            for (int t = 0; t < 40; t++) {
                Check.same("drift " + drift + ", tick " + t, mill.gauge(t), 1000 + drift * t / 10);
            }
        }
        RollMill all = line(10, 10, 10, 10, 10);
        tell(all, alike(40, 60_000));
        Check.rules(all, "drift 99999;late 9;");
        all.run(1);
        Check.same("none went out then: no drift", all.gauge(12), 0);
        Check.same("the first one, by this tick's number", all.gauge(13), 60_000 + 99_999 * 13 / 10);
        Check.same("the last tick", all.gauge(43), 60_000 + 99_999 * 43 / 10);
    }

    private static int movedTo(int low, int high, int screws, int gap, String wanted) {
        RollMill mill = new RollMill();
        mill.stand(999, FREE, low, high, screws, 10, 100, 0);
        mill.gap(0, gap);
        mill.segment(5, 5);
        Check.rules(mill, "stand 0 gap " + wanted + ";");
        mill.run(1);
        return mill.standOf(0, 0);
    }

    /** In, out, press: of its BITE in this TICK (0, if it didn't); hard: of the SEGMENT it BIT (0). */
    private static void valuesWithoutABite() {
        String[] values = {"in", "out", "press", "hard", "pull"};
        for (int i = 0; i < values.length; i++) {
            RollMill mill = new RollMill();
            mill.stand(999, FREE, 0, 60_000, 60_000, 10, 100, 2);
            mill.stand(999, FREE, 0, 60_000, 60_000, 10, 100, 2);
            mill.point(100, 1000);
            tell(mill, 1000);
            mill.gap(0, 900);
            Check.rules(mill, "stand 0 gap 50+" + values[i] + " unless tick=0;stand 1 gap 60+" + values[i] + " unless not tick=0;");
            mill.run(1);
            Check.same(values[i] + " of stand 0, when it bit no more", mill.standOf(0, 0), 50);
            Check.same(values[i] + " of stand 1, ahead of its bite", mill.standOf(1, 0), 60);
            mill.gap(0, 898);
            mill.gap(1, 60_000);
            Check.rules(mill, "stand 0 gap 50+" + values[i] + " unless not tick=0;");
            mill.run(1);
            int[] bitten = {1000, mill.out(0, 0), mill.ran(2), 10, 0};
            Check.same(values[i] + " of stand 0 in its bite", mill.standOf(0, 0), 50 + bitten[i]);
        }
    }

    /** Wear: WEAR by 1000, cut down, behind this TICK's BITE; tick: from 0 on; aim. */
    private static void valuesOfTheRun() {
        RollMill mill = new RollMill();
        mill.stand(999, FREE, 0, 60_000, 60_000, 10, 100, 0);
        mill.point(1, 100);
        mill.point(2, 99_900);
        mill.gap(0, 0);
        tell(mill, 150);
        Check.rules(mill, "stand 0 gap 7+wear;");
        mill.run(1);
        Check.same("a wear of 999", mill.standOf(0, 0), 7);
        mill.gap(0, 0);
        tell(mill, 50);
        mill.run(1);
        Check.same("a wear of 1000", mill.standOf(0, 0), 8);
        for (int aim : new int[] {1, 60_000}) {
            Check.rules(mill, "stand 0 gap aim-tick;");
            mill.run(aim);
            Check.same("the aim in tick 0", mill.standOf(0, 0), aim);
        }
    }

    /** Of the latest RUN alone: nothing stays of the one ahead. */
    private static void latestRun() {
        RollMill mill = line(10, 20);
        tell(mill, 1000, 1000, 1000);
        for (int i = 0; i < 3; i++) {
            Check.rules(mill, "");
            Check.same("done", mill.run(1), 0);
            Check.same("ticks", mill.ran(0), 4);
            Check.none("no stand", mill.ran(1));
            Check.same("came out", mill.ran(3), 3);
            Check.same("lengths", mill.ran(4), 3000);
            Check.rules(mill, "tear 9;");
            Check.same("torn", mill.run(1), 2);
            Check.same("ticks", mill.ran(0), 2);
            Check.same("the stand", mill.ran(1), 0);
            Check.same("came out", mill.ran(3), 1);
            Check.same("lengths", mill.ran(4), 1000);
            Check.none("not out this time", mill.out(1, 1));
            Check.noSuch("no gauge this time", () -> mill.gauge(1));
            Check.same("each PULL is 0 at the RUN's beginning", mill.pull(0), 10);
        }
    }

    /** PULL: 0 at the RUN's beginning, also if the one ahead was torn. */
    private static void pullsAtTheBeginning() {
        RollMill mill = line(10, 20);
        mill.point(1, 1000);
        tell(mill, 1000, 1000);
        Check.rules(mill, "tear 9;");
        Check.same("torn", mill.run(1), 2);
        Check.same("with a pull", mill.pull(0), 10);
        mill.coil();
        Check.same("done at once", mill.run(1), 0);
        Check.same("no pull", mill.pull(0), 0);
    }

    /** It goes there as far as screws go in a tick. */
    private static void screws() {
        Check.same("just as far up", movedTo(0, 60_000, 50, 1000, "1050"), 1050);
        Check.same("one farther up", movedTo(0, 60_000, 50, 1000, "1051"), 1050);
        Check.same("one less up", movedTo(0, 60_000, 50, 1000, "1049"), 1049);
        Check.same("just as far down", movedTo(0, 60_000, 50, 1000, "950"), 950);
        Check.same("one farther down", movedTo(0, 60_000, 50, 1000, "949"), 950);
        Check.same("one less down", movedTo(0, 60_000, 50, 1000, "951"), 951);
        Check.same("not at all", movedTo(0, 60_000, 50, 1000, "gap"), 1000);
        Check.same("the least screws up", movedTo(0, 60_000, 1, 1000, "99999"), 1001);
        Check.same("the least screws down", movedTo(0, 60_000, 1, 1000, "0"), 999);
        Check.same("the most screws up", movedTo(0, 60_000, 60_000, 0, "99999"), 60_000);
        Check.same("the most screws down", movedTo(0, 60_000, 60_000, 60_000, "0-99999"), 0);
        Check.same("the greatest int wanted", movedTo(0, 60_000, 50, 1000, "65536*32768-1"), 1050);
        Check.same("the least int wanted", movedTo(0, 60_000, 50, 1000, "65536*32768"), 950);
    }

    /** Within LOW and HIGH. */
    private static void withinLowAndHigh() {
        Check.same("just high", movedTo(900, 1100, 60_000, 1000, "1100"), 1100);
        Check.same("above high", movedTo(900, 1100, 60_000, 1000, "1101"), 1100);
        Check.same("above high, by the screws", movedTo(900, 1100, 101, 1000, "1101"), 1100);
        Check.same("just low", movedTo(900, 1100, 60_000, 1000, "900"), 900);
        Check.same("below low", movedTo(900, 1100, 60_000, 1000, "899"), 900);
        Check.same("below low, by the screws", movedTo(900, 1100, 101, 1000, "0"), 900);
        Check.same("at high, higher wanted", movedTo(900, 1100, 50, 1100, "2000"), 1100);
        Check.same("at low, lower wanted", movedTo(900, 1100, 50, 900, "0-5"), 900);
        Check.same("low is high", movedTo(900, 900, 50, 900, "2000"), 900);
    }

    /** LENGTH behind the last STAND: cut down, at most 10,000,000. */
    private static void lengths() {
        int[] outs = {5, 6, 7, 59_999, 60_000};
        int[] due = {10_000_000, 10_000_000, 8_571_428, 1000, 1000};
        for (int i = 0; i < outs.length; i++) {
            RollMill mill = line(10);
            mill.gap(0, outs[i]);
            tell(mill, 60_000);
            mill.run(1);
            Check.same("out", mill.out(0, 0), outs[i]);
            Check.same("length", mill.ran(4), due[i]);
        }
        RollMill long40 = line(10);
        long40.gap(0, 0);
        tell(long40, alike(40, 60_000));
        long40.run(1);
        Check.same("forty of the greatest", long40.ran(4), 400_000_000);
        RollMill two = line(10, 10);
        two.gap(0, 1);
        tell(two, 9999);
        two.run(1);
        Check.same("by its thickness at first, not as it came to the last one", two.ran(4), 9_999_000);
    }

    /** Promise 19: off the AIM by more than told, from the first on, from the last back; e is below 0. */
    private static void lostEdges() {
        Twins.illegalBeyond("lost at the head", Mills::some, (mill, n) -> mill.lost(false, n[0]), new int[][] {{0, MAX, 5}});
        Twins.illegalBeyond("lost at the tail", Mills::full, (mill, n) -> mill.lost(true, n[0]), new int[][] {{0, MAX, 5}});
        RollMill mill = line(10);
        tell(mill, 1010, 990, 1000, 1020, 1000, 1011, 989, 1010);
        mill.run(1000);
        int[] es = {0, 9, 10, 11, MAX};
        int[] heads = {2, 2, 0, 0, 0};
        int[] tails = {3, 3, 0, 0, 0};
        for (int i = 0; i < es.length; i++) {
            Check.same("head by more than " + es[i], mill.lost(false, es[i]), heads[i]);
            Check.same("tail by more than " + es[i], mill.lost(true, es[i]), tails[i]);
        }
        mill.run(60_000);
        Check.same("all by the head", mill.lost(false, 0), 8);
        Check.same("all by the tail", mill.lost(true, 58_979), 8);
        Check.same("at the head to the nearest one", mill.lost(false, 58_980), 3);
        Check.same("at the tail to the nearest one", mill.lost(true, 58_980), 4);
        mill.run(1);
        Check.same("thicker than the aim", mill.lost(false, 1008), 1);
        Check.same("just no more", mill.lost(false, 1009), 0);
    }

    /** Those that never came out are off. */
    private static void neverCameOut() {
        RollMill mill = line(10, 20);
        tell(mill, 1000, 1000, 1000, 1000);
        Check.rules(mill, "tear 19;");
        Check.same("torn", mill.run(1000), 2);
        Check.same("two came out", mill.ran(3), 2);
        Check.same("none lost at the head", mill.lost(false, 0), 0);
        Check.same("two at the tail", mill.lost(true, MAX), 2);
        Check.rules(mill, "tear 9;");
        Check.same("torn at once", mill.run(1), 2);
        Check.same("those that came out are off, too", mill.lost(false, 998), 4);
        Check.same("but for one just near enough", mill.lost(false, 999), 0);
        Check.same("not at the tail", mill.lost(true, 999), 3);
    }

    /** Promise 15: NoSuchElementException, another what. */
    private static void ranEdges() {
        for (int what : new int[] {-1, 5, MIN, MAX}) {
            Twins.noSuch("ran " + what, Mills::some, mill -> mill.ran(what));
        }
        int[] due = {4, -1, 1414, 3, 3689};
        for (int what = 0; what < 5; what++) {
            int asked = what;
            Twins.asks("ran " + what, Mills::some, mill -> mill.ran(asked), due[what]);
        }
    }

    /** Promise 16: NONE, it never did; NoSuchElementException, also no such SEGMENT. */
    private static void outEdges() {
        for (int segment : new int[] {-1, 3, 40, MIN, MAX}) {
            Twins.noSuch("segment " + segment, Mills::some, mill -> mill.out(0, segment));
        }
        for (int segment : new int[] {-1, 40, 41, MIN, MAX}) {
            Twins.noSuch("segment " + segment, Mills::full, mill -> mill.out(4, segment));
        }
        Twins.asks("the last segment", Mills::some, mill -> mill.out(1, 2), 808);
        Twins.asks("the last of forty", Mills::full, mill -> mill.out(4, 39), 17);
    }

    /** Promise 17: NoSuchElementException, it was not begun, or ended ahead of the GAUGE. */
    private static void gaugeEdges() {
        for (int tick : new int[] {-1, 4, 43, 44, MIN, MAX}) {
            Twins.noSuch("tick " + tick, Mills::some, mill -> mill.gauge(tick));
        }
        for (int tick : new int[] {-1, 44, 45, MIN, MAX}) {
            Twins.noSuch("tick " + tick, Mills::full, mill -> mill.gauge(tick));
        }
        Twins.asks("the first tick", Mills::some, mill -> mill.gauge(0), 0);
        Twins.asks("the last tick", Mills::some, mill -> mill.gauge(3), 807);
        Twins.asks("the last of 44", Mills::full, mill -> mill.gauge(43), 37);
        RollMill mill = line(10, 20);
        tell(mill, 1000, 1000, 1000);
        Check.rules(mill, "tear 9;");
        mill.run(1);
        Check.same("the tick ahead of the tear", mill.gauge(0), 0);
        Check.noSuch("the tick in which it tore was begun, and ended ahead of the gauge", () -> mill.gauge(1));
        Check.noSuch("the one behind it was not begun", () -> mill.gauge(2));
        Check.rules(mill, "");
        mill.run(1);
        Check.same("another run has them", mill.gauge(3), 1000);
    }

    /** Promise 18: PULL behind a STAND at the end of the latest RUN. */
    private static void pullEdges() {
        RollMill mill = line(10, 20, 40);
        tell(mill, 1000, 1000, 1000, 1000);
        Check.rules(mill, "tear 39;");
        mill.run(1);
        Check.same("behind the first one", mill.pull(0), 30);
        Check.same("behind the second one", mill.pull(1), 40);
        Check.same("behind the last one", mill.pull(2), 0);
        Check.noSuch("no stand behind it", () -> mill.pull(3));
        Check.noSuch("no stand ahead", () -> mill.pull(-1));
    }

    /** There is no RUN. */
    private static void noRun() {
        Supplier<RollMill> forgotten = () -> {
            RollMill mill = Mills.some();
            mill.segment(1, 1);
            return mill;
        };
        for (int i = 0; i < 5; i++) {
            int asked = i;
            Twins.noSuch("ran " + i, forgotten, mill -> mill.ran(asked));
            Twins.noSuch("gauge " + i, forgotten, mill -> mill.gauge(asked));
        }
        Twins.noSuch("out", forgotten, mill -> mill.out(0, 0));
        Twins.noSuch("pull", forgotten, mill -> mill.pull(0));
        Twins.noSuch("lost", forgotten, mill -> mill.lost(false, 0));
        Twins.noSuch("lost, and e below 0", forgotten, mill -> mill.lost(true, -1));
    }
}
