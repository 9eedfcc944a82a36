import java.util.Random;

/** Promises 12 to 19: coils, runs, pulls, the gauge, what is lost. */
public final class RunTest {
    public static void main(String[] args) {
        segments();
        runsThatNothingHappensIn();
        doneRun();
        brokenRun();
        brokenAtTheFirst();
        tornRun();
        tornAtTheFirstPull();
        pullsAtFirst();
        pullsWithoutRules();
        pullOfThinStrip();
        loopedRun();
        gauge();
        lost();
        lengths();
        whatForgetsARun();
        wrongAsked();
        randomRuns();
        Check.end("RunTest");
    }

    private static void segments() {
        RollMill mill = new RollMill();
        Check.none("thickness 0", mill.segment(0, 10));
        Check.none("thickness 60001", mill.segment(60_001, 10));
        Check.none("hardness 0", mill.segment(10, 0));
        Check.none("hardness 100", mill.segment(10, 100));
        for (int i = 1; i <= 40; i++) {
            Check.same("segment", mill.segment(i == 1 ? 1 : 60_000, i == 1 ? 1 : 99), i);
        }
        Check.none("the 41st", mill.segment(10, 10));
        Check.same("segments", mill.count(3), 40);
        mill.coil();
        Check.same("a new coil", mill.count(3), 0);
        Check.same("its first segment", mill.segment(10, 10), 1);
    }

    private static void runsThatNothingHappensIn() {
        RollMill mill = new RollMill();
        Check.same("run without anything", mill.run(1), 0);
        emptyRun(mill, 0);
        mill.segment(100, 5);
        mill.segment(100, 5);
        Check.same("run without stands", mill.run(100), 0);
        emptyRun(mill, 2);
        mill.coil();
        addStand(mill, 10, 0);
        Check.same("run without segments", mill.run(60_000), 0);
        emptyRun(mill, 0);
        Check.same("pull of it", mill.pull(0), 0);
        Check.same("its gap stays", mill.standOf(0, 0), 60_000);
        addStand(mill, 10, 0);
        addStand(mill, 10, 0);
        Check.same("run of three stands without segments", mill.run(60_000), 0);
        Check.same("no ticks", mill.ran(0), 0);
    }

    private static void emptyRun(RollMill mill, int segments) {
        Check.same("ticks", mill.ran(0), 0);
        Check.none("ended at", mill.ran(1));
        Check.same("greatest press", mill.ran(2), 0);
        Check.same("came out", mill.ran(3), 0);
        Check.same("lengths", mill.ran(4), 0);
        Check.noSuch("gauge 0", () -> mill.gauge(0));
        Check.noSuch("out of a stand that there isn't", () -> mill.out(2, 0));
        Check.same("lost at the head: what never came out", mill.lost(false, 60_000), segments);
        Check.same("lost at the tail", mill.lost(true, 0), segments);
    }

    private static void addStand(RollMill mill, int speed, int water) {
        mill.stand(100, 9_999_999, 0, 60_000, 60_000, speed, 1000, water);
    }

    private static void doneRun() {
        RollMill mill = StandsTest.oneStand();
        mill.point(100, 1000);
        mill.gap(0, 900);
        mill.segment(1000, 10);
        mill.segment(950, 10);
        mill.segment(800, 10);
        Check.same("done", mill.run(910), 0);
        Check.same("ticks", mill.ran(0), 3);
        Check.none("ended at", mill.ran(1));
        Check.same("greatest press", mill.ran(2), 900);
        Check.same("came out", mill.ran(3), 3);
        Check.same("lengths", mill.ran(4), 1000 * 1000 / 910 + 1000 * 950 / 905 + 1000);
        Check.same("out", mill.out(0, 0), 910);
        Check.same("out of the second", mill.out(0, 1), 905);
        Check.same("open", mill.out(0, 2), 800);
        Check.same("wear", mill.standOf(0, 1), 9 + 4);
        Check.illegal("aim 0", () -> mill.run(0));
        Check.illegal("aim 60001", () -> mill.run(60_001));
        Check.same("the run is still told", mill.ran(0), 3);
        Check.same("once more", mill.run(60_000), 0);
        Check.same("wear goes on", mill.standOf(0, 1), 26);
    }

    private static RollMill twoStands(int mostOfTheSecond) {
        RollMill mill = new RollMill();
        mill.stand(100, 5000, 100, 3000, 50, 10, 1000, 2);
        mill.stand(100, mostOfTheSecond, 0, 3000, 12, 10, 1000, 0);
        mill.point(100, 1000);
        mill.gap(0, 900);
        mill.gap(1, 800);
        mill.segment(1000, 10);
        mill.segment(1000, 10);
        mill.segment(1000, 10);
        return mill;
    }

    private static void brokenRun() {
        RollMill mill = twoStands(500);
        mill.change(1);
        Check.same("broken", mill.run(850), 1);
        Check.same("ticks begun", mill.ran(0), 2);
        Check.same("the stand", mill.ran(1), 1);
        int press = mill.bite(1, 910, 12, 1);
        Check.holds("by more than its most", press > 500);
        Check.same("its press counts", mill.ran(2), Math.max(900, press));
        Check.same("nothing came out", mill.ran(3), 0);
        Check.same("no lengths", mill.ran(4), 0);
        Check.none("nothing goes out there", mill.out(1, 0));
        Check.same("stand 0 bit once more", mill.out(0, 1), 910);
        Check.none("and not the third", mill.out(0, 2));
        Check.same("no wear there", mill.standOf(1, 1), 0);
        Check.same("wear of stand 0", mill.standOf(0, 1), 18);
        Check.same("gauge of tick 0", mill.gauge(0), 0);
        Check.noSuch("no gauge any more", () -> mill.gauge(1));
        Check.same("all lost", mill.lost(false, 60_000), 3);
        RollMill just = twoStands(press);
        Check.same("just its most holds", just.run(850), 0);
        RollMill hardly = twoStands(press - 1);
        Check.same("one less doesn't", hardly.run(850), 1);
    }

    private static void brokenAtTheFirst() {
        RollMill mill = new RollMill();
        mill.stand(100, 10, 0, 3000, 50, 10, 1000, 0);
        addStand(mill, 10, 0);
        mill.point(100, 1000);
        mill.segment(50, 10);
        mill.segment(4000, 10);
        Check.same("broken", mill.run(5), 1);
        Check.same("in tick 1", mill.ran(0), 2);
        Check.same("at stand 0", mill.ran(1), 0);
        Check.none("stand 1 doesn't bite any more", mill.out(1, 0));
        Check.same("what stand 0 bit", mill.out(0, 0), 50);
    }

    private static RollMill pulling(int speed0, int speed1, int speed2) {
        RollMill mill = new RollMill();
        addStand(mill, speed0, 0);
        addStand(mill, speed1, 0);
        addStand(mill, speed2, 0);
        for (int i = 0; i < 5; i++) {
            mill.segment(1000, 5);
        }
        return mill;
    }

    private static void tornRun() {
        RollMill mill = pulling(10, 10, 20);
        Check.rules(mill, "tear 20;");
        Check.same("torn", mill.run(1000), 2);
        Check.same("above, not at 20", mill.ran(0), 5);
        Check.same("behind stand 1", mill.ran(1), 1);
        Check.same("pull", mill.pull(1), 30);
        Check.same("pull behind stand 0", mill.pull(0), 0);
        Check.same("pull behind the last one", mill.pull(2), 0);
        Check.same("it bit in that tick", mill.out(2, 2), 1000);
        Check.none("not later", mill.out(2, 3));
        Check.same("gauge ahead", mill.gauge(3), 1000);
        Check.noSuch("ended ahead of the gauge", () -> mill.gauge(4));
        Check.same("a run begins with pull 0", mill.run(1000), 2);
        Check.same("as far as at first", mill.ran(0), 5);
        Check.rules(mill, "");
        Check.same("without 'tear'", mill.run(1000), 0);
        Check.same("the pull is gone in the end", mill.pull(1), 0);
    }

    private static void tornAtTheFirstPull() {
        RollMill mill = pulling(10, 20, 30);
        Check.rules(mill, "tear 15;loop 0;");
        Check.same("torn", mill.run(1000), 2);
        Check.same("the first one of two", mill.ran(1), 0);
        Check.same("pull behind 0", mill.pull(0), 20);
        Check.same("pull behind 1 has been moved, too", mill.pull(1), 10);
        RollMill both = pulling(10, 5, 999);
        Check.rules(both, "tear 900;loop 6;");
        Check.same("looped ahead of torn", both.run(1000), 3);
        Check.same("behind stand 0", both.ran(1), 0);
        Check.same("in tick 2", both.ran(0), 3);
        Check.same("what would have torn", both.pull(1), 994);
    }

    private static void pullsAtFirst() {
        RollMill mill = new RollMill();
        mill.stand(999, 1, 0, 60_000, 60_000, 10, 100, 0);
        mill.stand(999, 1, 0, 60_000, 60_000, 20, 100, 0);
        mill.point(1, 9000);
        mill.segment(1000, 10);
        mill.segment(1000, 10);
        mill.segment(1000, 10);
        Check.rules(mill, "tear 19;");
        Check.same("torn", mill.run(1), 2);
        Check.same("with a pull", mill.pull(0), 20);
        mill.gap(0, 0);
        Check.same("broken in tick 0", mill.run(1), 1);
        Check.same("pulls are 0 at first", mill.pull(0), 0);
        mill.gap(0, 60_000);
        Check.same("torn", mill.run(1), 2);
        mill.coil();
        Check.same("done at once", mill.run(1), 0);
        Check.same("pulls are 0 at first", mill.pull(0), 0);
    }

    private static void pullsWithoutRules() {
        int[] thicknesses = {40_000, 40_002, 39_999};
        int[] speeds = {499, 499, 999};
        int[] due = {2, 0, 0};
        for (int i = 0; i < 3; i++) {
            RollMill mill = new RollMill();
            addStand(mill, speeds[i], 0);
            addStand(mill, 1498 - speeds[i], 0);
            for (int segment = 0; segment < 6; segment++) {
                mill.segment(segment < 5 ? 40_000 : thicknesses[i], 1);
            }
            Check.same("above 99999, or not", mill.run(1), due[i]);
            Check.rules(mill, "tear 0;loop 0;");
            Check.same("with rules", mill.run(1), i == 2 ? 3 : 2);
            Check.rules(mill, "");
            Check.same("without again", mill.run(1), due[i]);
            Check.rules(mill, "");
            Check.same("once more without", mill.run(1), due[i]);
        }
        RollMill mill = new RollMill();
        addStand(mill, 999, 0);
        addStand(mill, 499, 0);
        for (int segment = 0; segment < 6; segment++) {
            mill.segment(40_000, 1);
        }
        Check.same("below 0 less 99999", mill.run(1), 3);
        Check.same("by one", mill.pull(0), -100_000);
    }

    private static void pullOfThinStrip() {
        RollMill mill = new RollMill();
        addStand(mill, 10, 0);
        addStand(mill, 10, 0);
        mill.segment(60_000, 1);
        mill.segment(1, 1);
        Check.rules(mill, "tear 598;");
        Check.same("a strip of 1 is bitten, too", mill.run(1), 2);
        Check.same("its pull", mill.pull(0), (600_000 - 10) / 1000);
    }

    private static void loopedRun() {
        RollMill mill = pulling(20, 20, 10);
        Check.rules(mill, "loop 20;tear 0;");
        Check.same("looped", mill.run(1000), 3);
        Check.same("below, not at 0 less 20", mill.ran(0), 5);
        Check.same("behind stand 1", mill.ran(1), 1);
        Check.same("pull", mill.pull(1), -30);
        Check.same("what came out", mill.ran(3), 3);
        Check.rules(mill, "loop 30;");
        Check.same("not at 0 less 30, but a tick later", mill.run(1000) * 10 + mill.ran(0), 36);
        Check.rules(mill, "loop 50;");
        Check.same("done", mill.run(1000), 0);
        RollMill small = new RollMill();
        addStand(small, 3, 0);
        addStand(small, 2, 0);
        small.segment(1999, 1);
        small.segment(1999, 1);
        small.segment(1999, 1);
        Check.rules(small, "loop 1;");
        Check.same("each time cut towards 0", small.run(5), 3);
        Check.same("1 and 1", small.pull(0), -2);
    }

    private static void gauge() {
        RollMill mill = new RollMill();
        addStand(mill, 10, 0);
        addStand(mill, 10, 0);
        for (int i = 0; i < 4; i++) {
            mill.segment(1000 + i, 5);
        }
        Check.rules(mill, "late 2; drift 25;");
        Check.same("done", mill.run(1000), 0);
        int[] due = {0, 0, 0, 1000 + 7, 1001 + 10};
        for (int i = 0; i < 5; i++) {
            Check.same("gauge " + i, mill.gauge(i), due[i]);
        }
        Check.noSuch("gauge 5", () -> mill.gauge(5));
        Check.noSuch("gauge -1", () -> mill.gauge(-1));
        Check.rules(mill, "");
        Check.rules(mill, "");
        for (int i = 4; i < 40; i++) {
            mill.segment(1000, 5);
        }
        mill.run(1000);
        Check.same("no drift without rules", mill.gauge(40), 1000);
        Check.rules(mill, "drift 1;");
        mill.run(1000);
        Check.same("a little drift", mill.gauge(40), 1004);
        Check.same("cut down", mill.gauge(39), 1003);
        mill.coil();
        for (int i = 0; i < 4; i++) {
            mill.segment(1000 + i, 5);
        }
        Check.rules(mill, "late 9;");
        mill.run(1000);
        Check.same("too late", mill.gauge(4), 0);
        Check.rules(mill, "drift 3; late 5; late 0; drift 4;");
        mill.run(1000);
        Check.same("nothing came out in tick 0", mill.gauge(0), 0);
        Check.same("cut down", mill.gauge(1), 1000);
        Check.same("cut down", mill.gauge(3), 1003);
    }

    private static void lost() {
        RollMill mill = new RollMill();
        addStand(mill, 10, 0);
        int[] thicknesses = {1010, 990, 1004, 1000, 1030, 1000, 1006, 1005};
        for (int thickness : thicknesses) {
            mill.segment(thickness, 5);
        }
        mill.run(1000);
        Check.same("head by 0", mill.lost(false, 0), 3);
        Check.same("head by 3", mill.lost(false, 3), 3);
        Check.same("head by 4: only from the first on", mill.lost(false, 4), 2);
        Check.same("head by 9", mill.lost(false, 9), 2);
        Check.same("head by 10", mill.lost(false, 10), 0);
        Check.same("tail by 4", mill.lost(true, 4), 2);
        Check.same("tail by 5", mill.lost(true, 5), 0);
        Check.same("by very much", mill.lost(true, Integer.MAX_VALUE), 0);
        Check.illegal("by -1", () -> mill.lost(false, -1));
        Check.illegal("at the tail by less", () -> mill.lost(true, Integer.MIN_VALUE));
        mill.run(60_000);
        Check.same("all", mill.lost(false, 58_969), 8);
        Check.same("all, from the tail", mill.lost(true, 58_969), 8);
        Check.same("but one", mill.lost(true, 58_970), 3);
        RollMill torn = pulling(10, 10, 20);
        Check.rules(torn, "tear 10;");
        torn.run(1000);
        Check.same("those that never came out are off", torn.lost(true, 60_000), 3);
        Check.same("none at the head", torn.lost(false, 0), 0);
    }

    private static void lengths() {
        RollMill mill = new RollMill();
        addStand(mill, 10, 0);
        mill.gap(0, 1);
        mill.segment(60_000, 1);
        mill.segment(3, 1);
        mill.run(1);
        Check.same("at most 10000000", mill.ran(4), 10_000_000 + 3000);
        mill.gap(0, 6);
        mill.run(1);
        Check.same("just 10000000, and one as at first", mill.ran(4), 10_000_000 + 1000);
        mill.gap(0, 7);
        mill.run(1);
        Check.same("cut down", mill.ran(4), 8_571_428 + 1000);
    }

    private static void whatForgetsARun() {
        RollMill mill = StandsTest.oneStand();
        mill.segment(10, 10);
        mill.run(10);
        mill.stand(0, 0, 0, 0, 0, 0, 0, 0);
        mill.segment(0, 0);
        mill.gap(0, 150);
        mill.change(0);
        mill.point(5, 5);
        Check.rules(mill, "late 5;");
        mill.pass(10);
        mill.plan(10, 10, 10);
        Check.same("still told", mill.ran(0), 1);
        Check.same("as it was", mill.gauge(0), 10);
        mill.segment(20, 20);
        forgotten(mill);
        mill.run(10);
        Check.same("told again", mill.ran(0), 2);
        mill.stand(100, 5000, 100, 3000, 50, 10, 1000, 2);
        forgotten(mill);
        mill.run(10);
        mill.coil();
        forgotten(mill);
    }

    private static void forgotten(RollMill mill) {
        for (int what = 0; what < 5; what++) {
            int asked = what;
            Check.noSuch("ran", () -> mill.ran(asked));
        }
        Check.noSuch("out", () -> mill.out(0, 0));
        Check.noSuch("gauge", () -> mill.gauge(0));
        Check.noSuch("pull", () -> mill.pull(0));
        Check.noSuch("lost", () -> mill.lost(false, 0));
        Check.noSuch("lost, and e below 0", () -> mill.lost(true, -1));
    }

    private static void wrongAsked() {
        RollMill mill = twoStands(5000);
        mill.run(5);
        Check.noSuch("ran -1", () -> mill.ran(-1));
        Check.noSuch("ran 5", () -> mill.ran(5));
        Check.noSuch("out of stand 2", () -> mill.out(2, 0));
        Check.noSuch("out of stand -1", () -> mill.out(-1, 0));
        Check.noSuch("out of segment 3", () -> mill.out(0, 3));
        Check.noSuch("out of segment -1", () -> mill.out(0, -1));
        Check.noSuch("pull of stand 2", () -> mill.pull(2));
        Check.noSuch("pull of stand -1", () -> mill.pull(-1));
    }

    private static void randomRuns() {
        Random random = new Random(3);
        int[] ends = new int[4];
        for (int round = 0; round < 400; round++) {
            SlowMill slow = new SlowMill(random);
            RollMill mill = slow.fastOne();
            for (int again = 0; again < 3; again++) {
                int aim = 1 + random.nextInt(3000);
                int end = mill.run(aim);
                Check.same("run", end, slow.run(aim));
                sameRun(mill, slow);
                ends[end]++;
            }
        }
        for (int end = 0; end < 4; end++) {
            Check.holds("enough random runs end by " + end, ends[end] > 50);
        }
    }

    private static void sameRun(RollMill mill, SlowMill slow) {
        Check.same("ticks", mill.ran(0), slow.gauges.size() + (slow.endedAt >= 0 ? 1 : 0));
        Check.same("ended at", mill.ran(1), slow.endedAt);
        Check.same("greatest", mill.ran(2), slow.greatest);
        int came = 0;
        for (int s = 0; s < slow.stands.length; s++) {
            Check.same("gap", mill.standOf(s, 0), slow.gaps[s]);
            Check.same("wear", mill.standOf(s, 1), slow.wears[s]);
            Check.same("pull", mill.pull(s), slow.pulls[s]);
            for (int i = 0; i < slow.segments.length; i++) {
                Check.same("out", mill.out(s, i), slow.outs[s][i]);
            }
        }
        for (int out : slow.outs[slow.stands.length - 1]) {
            came += out >= 0 ? 1 : 0;
        }
        Check.same("came out", mill.ran(3), came);
        for (int t = 0; t < slow.gauges.size(); t++) {
            Check.same("gauge", mill.gauge(t), slow.gauges.get(t));
        }
        int end = slow.gauges.size();
        Check.noSuch("gauge at the end", () -> mill.gauge(end));
    }
}
