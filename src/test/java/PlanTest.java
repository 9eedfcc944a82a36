import java.util.Random;

/** Promises 20 to 24: passes and plans, marks, slices. */
public final class PlanTest {
    public static void main(String[] args) {
        passes();
        plans();
        plansOfOneStand();
        plansOfWornRolls();
        plansOfAllThatIsTold();
        planKept();
        tiesOfPlans();
        randomPlans();
        marks();
        marksWrong();
        randomMarks();
        slices();
        slicesWrong();
        randomSlices();
        Check.end("PlanTest");
    }

    private static void passes() {
        RollMill mill = new RollMill();
        Check.none("thickness 0", mill.pass(0));
        Check.none("thickness 60001", mill.pass(60_001));
        for (int i = 1; i <= 12; i++) {
            Check.same("pass", mill.pass(i == 1 ? 60_000 : i - 1), i);
            Check.none("the same again", mill.pass(i == 1 ? 60_000 : i - 1));
        }
        Check.none("the 13th", mill.pass(500));
        Check.same("thicknesses", mill.count(4), 12);
    }

    private static void plans() {
        RollMill mill = new RollMill();
        Check.none("no stand", mill.plan(5, 5, 5));
        Check.illegal("in 0, and no stand", () -> mill.plan(0, 5, 5));
        mill.stand(999, 9_999_999, 0, 60_000, 1, 1, 100, 0);
        mill.stand(999, 9_999_999, 0, 60_000, 1, 1, 100, 0);
        mill.pass(900);
        mill.pass(800);
        Check.same("without points there is no press", mill.plan(1000, 5, 800), 0);
        Check.same("the greater one ahead", mill.planned(0, 0), 1000);
        Check.same("greatest gap, open", mill.planned(0, 2), 60_000);
        Check.same("then all at once", mill.planned(1, 0), 800);
        Check.same("its gap", mill.planned(1, 2), 800);
        Check.none("out is none told", mill.plan(1000, 5, 850));
        Check.none("out is greater", mill.plan(800, 5, 900));
        Check.same("out is in, not told", mill.plan(700, 5, 700), 0);
        Check.same("it stays", mill.planned(1, 0), 700);
        Check.same("out is in, told", mill.plan(800, 5, 800), 0);
        Check.illegal("in 0", () -> mill.plan(0, 5, 5));
        Check.illegal("in 60001", () -> mill.plan(60_001, 5, 5));
        Check.illegal("out 0", () -> mill.plan(5, 5, 0));
        Check.illegal("out 60001", () -> mill.plan(5, 5, 60_001));
        Check.illegal("h 0", () -> mill.plan(5, 0, 5));
        Check.illegal("h 100", () -> mill.plan(5, 100, 5));
        mill.point(100, 1000);
        Check.same("halved as far as told", mill.plan(1000, 10, 800), 1000);
        Check.same("by way of 900", mill.planned(0, 0), 900);
        Check.same("press", mill.planned(1, 1), 1000);
        Check.same("its gap: 1000 by 999 is more than 1", mill.planned(1, 2), 798);
    }

    private static void plansOfOneStand() {
        RollMill mill = new RollMill();
        mill.stand(100, 2000, 300, 700, 1, 1, 100, 0);
        mill.point(100, 1000);
        mill.pass(500);
        mill.pass(700);
        mill.pass(320);
        mill.pass(310);
        mill.pass(299);
        mill.pass(1);
        Check.same("just its most", mill.plan(700, 10, 500), 2000);
        Check.same("gap", mill.planned(0, 2), 480);
        Check.none("above its most", mill.plan(701, 10, 500));
        Check.same("open at high", mill.plan(700, 10, 700), 0);
        Check.same("gap", mill.planned(0, 2), 700);
        Check.none("high is not wide enough for 800, nor 800 told", mill.plan(800, 10, 800));
        Check.same("hardly bitten at high", mill.plan(701, 10, 701), 0);
        Check.same("gap at high", mill.planned(0, 2), 700);
        Check.none("711 would be bitten at high", mill.plan(715, 10, 715));
        Check.same("just low", mill.plan(320, 10, 310), 100);
        Check.same("its gap", mill.planned(0, 2), 309);
        Check.same("gap at low", mill.plan(400, 10, 310), 900);
        Check.same("its gap", mill.planned(0, 2), 301);
        Check.none("below low", mill.plan(500, 10, 310));
        Check.none("thinner than low", mill.plan(310, 10, 299));
        RollMill bare = new RollMill();
        bare.stand(1, 1, 0, 60_000, 1, 1, 100, 0);
        bare.pass(1);
        Check.same("down to 1", bare.plan(60_000, 99, 1), 0);
        Check.same("the greatest gap for it", bare.planned(0, 2), 1);
    }

    private static void plansOfWornRolls() {
        RollMill mill = new RollMill();
        mill.stand(166, 9_999_999, 0, 60_000, 1, 1, 100, 0);
        mill.point(1, 9990);
        mill.gap(0, 0);
        for (int i = 0; i < 40; i++) {
            mill.segment(60_000, 10);
        }
        mill.run(60_000);
        int worn = mill.standOf(0, 1) / 1000;
        Check.holds("worn by many whole ones", worn > 500);
        mill.pass(50_000);
        Check.same("9990 for each", mill.plan(50_010, 10, 50_000), 99_900);
        Check.same("602 for the stretch, and the wear", mill.planned(0, 2), 49_398 - worn);
        mill.pass(worn + 602);
        mill.pass(worn + 601);
        Check.same("just at gap 0", mill.plan(worn + 612, 10, worn + 602), 99_900);
        Check.same("its gap", mill.planned(0, 2), 0);
        Check.none("no gap for less", mill.plan(worn + 611, 10, worn + 601));
        Check.same("open by the wear", mill.plan(worn, 10, worn), 0);
        Check.same("the greatest gap", mill.planned(0, 2), 60_000);
    }

    private static void plansOfAllThatIsTold() {
        RollMill mill = new RollMill();
        for (int i = 0; i < 5; i++) {
            mill.stand(999, 9_999_999, 0, 60_000, 1, 1, 100, 0);
        }
        mill.point(100, 1000);
        for (int i = 12; i >= 1; i--) {
            Check.same("pass", mill.pass(100 * i), 13 - i);
        }
        int[] outs = {1250, 1000, 700, 400, 100};
        Check.same("1250 in five, by told ones: not without 300", mill.plan(1250, 10, 100), 3000);
        for (int s = 0; s < 5; s++) {
            Check.same("the sums are alike: as late as may be", mill.planned(s, 0), outs[s]);
        }
        Check.same("none less", mill.plan(1250, 10, 1200), 500);
        Check.same("at last", mill.planned(4, 0) + mill.planned(3, 0), 2450);
        RollMill tight = new RollMill();
        tight.stand(1, 1, 0, 0, 1, 1, 100, 0);
        tight.pass(1);
        tight.pass(2);
        Check.same("a gap of 0 gives 1", tight.plan(5, 5, 1), 0);
        Check.same("its gap", tight.planned(0, 2), 0);
        Check.none("but not 2", tight.plan(5, 5, 2));
    }

    private static void planKept() {
        RollMill mill = new RollMill();
        mill.stand(999, 9_999_999, 0, 60_000, 1, 1, 100, 9);
        mill.pass(900);
        Check.noSuch("none kept yet", () -> mill.planned(0, 0));
        Check.none("none found", mill.plan(800, 5, 900));
        Check.noSuch("none kept then", () -> mill.planned(0, 0));
        mill.point(100, 1000);
        mill.plan(1000, 10, 900);
        Check.none("none found", mill.plan(800, 5, 900));
        Check.same("what was kept stays: out", mill.planned(0, 0), 900);
        mill.stand(999, 9_999_999, 0, 60_000, 1, 1, 100, 9);
        mill.gap(0, 5);
        mill.point(101, 99_999);
        mill.pass(950);
        Check.same("press", mill.planned(0, 1), 1000);
        Check.same("gap", mill.planned(0, 2), 898);
        Check.noSuch("a stand that came later", () -> mill.planned(1, 0));
        Check.noSuch("no stand", () -> mill.planned(2, 0));
        Check.noSuch("stand -1", () -> mill.planned(-1, 0));
        Check.noSuch("what 3", () -> mill.planned(0, 3));
        Check.noSuch("what -1", () -> mill.planned(0, -1));
        mill.plan(950, 95, 900);
        Check.same("the later one is told now", mill.planned(1, 0), 900);
        Check.same("its hardness is more by the water, at most 99", mill.planned(0, 1), 50 * 10 * 95 / 10);
        mill.plan(950, 85, 950);
        Check.same("and nothing to press", mill.planned(1, 1), 0);
    }

    private static void tiesOfPlans() {
        RollMill mill = new RollMill();
        for (int i = 0; i < 3; i++) {
            mill.stand(999, 9_999_999, 0, 60_000, 1, 1, 100, 0);
        }
        mill.point(100, 1000);
        mill.pass(1000);
        mill.pass(900);
        mill.pass(850);
        mill.pass(800);
        Check.same("one presses 100, one 50, one 50", mill.plan(1000, 10, 800), 1000);
        Check.same("of like ones the greater one ahead", mill.planned(0, 0), 1000);
        Check.same("then", mill.planned(1, 0), 900);
        RollMill sums = new RollMill();
        for (int i = 0; i < 3; i++) {
            sums.stand(999, 9_999_999, 0, 60_000, 1, 1, 100, 0);
        }
        sums.point(10, 1000);
        sums.point(100, 1001);
        sums.point(101, 99_999);
        sums.pass(1100);
        sums.pass(1000);
        sums.pass(999);
        sums.pass(990);
        Check.same("the greatest press", sums.plan(1100, 10, 990), 1001);
        Check.same("less in all by 100 and 10 than by 101", sums.planned(0, 1) + sums.planned(1, 1) + sums.planned(2, 1), 2001);
        Check.same("as late as may be", sums.planned(0, 0), 1100);
        Check.same("as late as may be", sums.planned(1, 0), 1000);
    }

    private static void randomPlans() {
        Random random = new Random(5);
        int found = 0;
        for (int round = 0; round < 3000; round++) {
            SlowPlan slow = new SlowPlan(random);
            int due = slow.best();
            Check.same("plan", slow.mill.plan(slow.in, slow.hardness, slow.out), due);
            found += due > 0 ? 1 : 0;
            for (int s = 0; s < slow.stands && due >= 0; s++) {
                Check.same("out", slow.mill.planned(s, 0), slow.bestRow[s]);
                Check.same("press", slow.mill.planned(s, 1), slow.bestPress[s]);
                Check.same("gap", slow.mill.planned(s, 2), slow.bestGap[s]);
            }
        }
        Check.holds("enough of them have a plan: " + found, found > 600);
    }

    private static long places(int... places) {
        long all = 0;
        for (int i = 0; i < places.length; i++) {
            all |= (long) places[i] << 17 * i;
        }
        return all;
    }

    private static boolean fitsAll(RollMill mill, int many, int[] p, int e, int x, int y) {
        int[] all = new int[12];
        System.arraycopy(p, 0, all, 0, p.length);
        return mill.fits(0, many, places(all[0], all[1], all[2]), places(all[3], all[4], all[5]),
                places(all[6], all[7], all[8]), places(all[9], all[10], all[11]), e, x, y);
    }

    private static RollMill turning(int turn) {
        RollMill mill = new RollMill();
        mill.stand(1, 1, 0, 60_000, 1, 1, turn, 0);
        return mill;
    }

    private static void marks() {
        RollMill mill = turning(500);
        Check.holds("each turn", fitsAll(mill, 3, new int[] {100, 600, 1100}, 0, 7, 7));
        Check.holds("not 1 off", !fitsAll(mill, 3, new int[] {100, 600, 1101}, 0, 7, 7));
        Check.holds("1 off, but within it", fitsAll(mill, 3, new int[] {100, 599, 1101}, 1, 7, 7));
        Check.holds("short of the second turn", !fitsAll(mill, 2, new int[] {0, 999}, 0, 7, 7));
        Check.holds("short of it, but within it", fitsAll(mill, 2, new int[] {0, 999}, 1, 7, 7));
        Check.holds("turns may be left out", fitsAll(mill, 2, new int[] {0, 99_500}, 0, 7, 7));
        Check.holds("longer behind thinner ones", !fitsAll(mill, 2, new int[] {0, 500}, 499, 2000, 1000));
        Check.holds("just as near", fitsAll(mill, 2, new int[] {0, 500}, 500, 2000, 1000));
        Check.holds("from one turn on", !fitsAll(mill, 2, new int[] {0, 1}, 498, 7, 7));
        Check.holds("from one turn on", fitsAll(mill, 2, new int[] {0, 1}, 499, 7, 7));
        Check.holds("thirds exactly", !fitsAll(mill, 2, new int[] {0, 166}, 0, 1, 3));
        Check.holds("three thirds", fitsAll(mill, 2, new int[] {0, 500}, 0, 1, 3));
        Check.holds("a third is near", fitsAll(mill, 2, new int[] {0, 167}, 1, 1, 3));
        Check.holds("as far as any", fitsAll(mill, 2, new int[] {0, 1}, Integer.MAX_VALUE, 60_000, 1));
        Check.holds("very long turns", !fitsAll(mill, 2, new int[] {0, 99_999}, 29_900_000, 60_000, 1));
        Check.holds("very short turns", fitsAll(mill, 2, new int[] {0, 99_999}, 0, 1, 60_000));
        int[] ten = {9, 509, 1009, 1509, 2009, 2509, 3009, 3509, 4009, 4509};
        Check.holds("ten", fitsAll(mill, 10, ten, 0, 7, 7));
        for (int i = 1; i < 10; i++) {
            int[] off = ten.clone();
            off[i]++;
            Check.holds("but mark " + i, !fitsAll(mill, 10, off, 0, 7, 7));
            Check.holds("but mark " + i + " doesn't count", fitsAll(mill, Math.max(2, i), off, 0, 7, 7) == i > 1);
        }
        Check.holds("other bits don't count", mill.fits(0, 2, places(0, 500) | -1L << 34, -1, -1, -1, 0, 1, 1));
    }

    private static void marksWrong() {
        RollMill mill = turning(500);
        int[] ten = {9, 509, 1009, 1509, 2009, 2509, 3009, 3509, 4009, 4509, 5009, 5509};
        Check.illegal("one mark", () -> fitsAll(mill, 1, ten, 0, 1, 1) ? 1 : 0);
        Check.illegal("eleven marks", () -> fitsAll(mill, 11, ten, 0, 1, 1) ? 1 : 0);
        Check.illegal("e below 0", () -> fitsAll(mill, 2, ten, -1, 1, 1) ? 1 : 0);
        Check.illegal("x 0", () -> fitsAll(mill, 2, ten, 0, 0, 1) ? 1 : 0);
        Check.illegal("x 60001", () -> fitsAll(mill, 2, ten, 0, 60_001, 1) ? 1 : 0);
        Check.illegal("y 0", () -> fitsAll(mill, 2, ten, 0, 1, 0) ? 1 : 0);
        Check.illegal("y 60001", () -> fitsAll(mill, 2, ten, 0, 1, 60_001) ? 1 : 0);
        for (int i = 1; i < 10; i++) {
            int[] wrong = ten.clone();
            wrong[i] = ten[i - 1];
            Check.illegal("place " + i + " as ahead", () -> fitsAll(mill, 10, wrong, 99_999, 1, 1) ? 1 : 0);
        }
        Check.illegal("place 100000", () -> fitsAll(mill, 2, new int[] {0, 100_000}, 99_999, 1, 1) ? 1 : 0);
        Check.illegal("place 131071", () -> fitsAll(mill, 2, new int[] {131_071, 5}, 99_999, 1, 1) ? 1 : 0);
        Check.noSuch("stand 1, many 1", () -> mill.fits(1, 1, 0, 0, 0, 0, 0, 1, 1) ? 1 : 0);
        Check.noSuch("stand -1", () -> mill.fits(-1, 2, 0, 0, 0, 0, 0, 1, 1) ? 1 : 0);
    }

    private static void randomMarks() {
        Random random = new Random(9);
        int fit = 0;
        for (int round = 0; round < 3000; round++) {
            int turn = 100 + random.nextInt(3901);
            int x = 1 + random.nextInt(40);
            int y = 1 + random.nextInt(40);
            int e = random.nextInt(60);
            int[] p = {random.nextInt(50), 0, 0};
            p[1] = (int) (p[0] + (long) turn * x / y + random.nextInt(80));
            p[2] = (int) (p[1] + (long) turn * x / y * random.nextInt(3) + 1 + random.nextInt(80));
            if (p[1] <= p[0] || p[2] > 99_999) {
                continue;
            }
            boolean due = isNear(p[1] - p[0], turn, e, x, y) && isNear(p[2] - p[0], turn, e, x, y);
            fit += due ? 1 : 0;
            Check.same("fits", fitsAll(turning(turn), 3, p, e, x, y) ? 1 : 0, due ? 1 : 0);
        }
        Check.holds("enough fit: " + fit, fit > 300);
    }

    private static boolean isNear(long far, long turn, long e, long x, long y) {
        for (long k = 1; (k - 1) * turn * x <= (far + e) * y + turn * x; k++) {
            if (Math.abs(far * y - k * turn * x) <= e * y) {
                return true;
            }
        }
        return false;
    }

    private static void slices() {
        RollMill mill = new RollMill();
        mill.stand(999, 9_999_999, 0, 60_000, 60_000, 20, 500, 0);
        Check.same("all open", mill.waves(0, 1000, 1000, 1000, 1000, 1000, 5, 0, 0), 0);
        mill.gap(0, 500);
        Check.same("the last one", mill.waves(0, 1000, 1000, 1000, 1000, 1100, 5, 0, 10), 16);
        Check.same("2200 by 1020: not by more", mill.waves(0, 1000, 1000, 1000, 1000, 1100, 5, 0, 79), 0);
        Check.same("2200 by 1020: just by more", mill.waves(0, 1000, 1000, 1000, 1000, 1100, 5, 0, 78), 16);
        Check.same("the edges are wider by 20, the next by 5", mill.waves(0, 1000, 1000, 1000, 1000, 1000, 5, 50, 0), 14);
        Check.same("4 times 3 is 1 at the edges", mill.waves(0, 1000, 1000, 1000, 1000, 1000, 5, 3, 0), 14);
        Check.same("1 by 10 is cut down, 4 too", mill.waves(0, 1000, 1000, 1000, 1000, 1000, 5, 1, 0), 0);
        Check.same("cut towards 0", mill.waves(0, 1000, 1000, 1000, 1000, 1000, 5, -2, 0), 0);
        Check.same("-1 at the edges", mill.waves(0, 1000, 1000, 1000, 1000, 1000, 5, -3, 0), 17);
        Check.same("-1 beside the middle", mill.waves(0, 1000, 1000, 1000, 1000, 1000, 5, -10, 0), 17);
        mill.gap(0, 3);
        Check.same("at least 0, and out at least 1", mill.waves(0, 9, 9, 3, 9, 9, 5, -999, 615), 27);
        Check.same("9 by 1 to 39 by 7", mill.waves(0, 9, 9, 3, 9, 9, 5, -999, 616), 0);
        mill.gap(0, 0);
        Check.same("3 by 1 to 7 by 5, more than twice as much", mill.waves(0, 3, 1, 1, 1, 1, 5, 0, 1000), 1);
        Check.same("just twice is not", mill.waves(0, 1, 1, 1, 1, 1, 5, 0, 0), 0);
    }

    private static void slicesWrong() {
        RollMill mill = turning(500);
        Check.noSuch("stand 1", () -> mill.waves(1, 0, 1, 1, 1, 1, 1, 0, 0));
        Check.noSuch("stand -1", () -> mill.waves(-1, 1, 1, 1, 1, 1, 1, 0, 0));
        for (int i = 0; i < 5; i++) {
            int[] s = {1, 1, 1, 1, 1};
            s[i] = 0;
            Check.illegal("slice " + i, () -> mill.waves(0, s[0], s[1], s[2], s[3], s[4], 1, 0, 0));
            int[] t = {1, 1, 1, 1, 1};
            t[i] = 60_001;
            Check.illegal("slice " + i, () -> mill.waves(0, t[0], t[1], t[2], t[3], t[4], 1, 0, 0));
        }
        int[][] wrong = {{0, 0, 0}, {100, 0, 0}, {1, -1000, 0}, {1, 1000, 0}, {1, 0, -1}, {1, 0, 1001}};
        for (int[] w : wrong) {
            Check.illegal("h, b, n", () -> mill.waves(0, 1, 1, 1, 1, 1, w[0], w[1], w[2]));
        }
        Check.same("at their least", mill.waves(0, 1, 1, 1, 1, 1, 1, -999, 0), 0);
        Check.same("at their most", mill.waves(0, 60_000, 60_000, 60_000, 60_000, 60_000, 99, 999, 1000), 0);
    }

    private static void randomSlices() {
        Random random = new Random(13);
        int[] times = {4, 1, 0, 1, 4};
        for (int round = 0; round < 1000; round++) {
            RollMill mill = new RollMill();
            int stiffness = 1 + random.nextInt(999);
            mill.stand(stiffness, 9_999_999, 0, 60_000, 1, 1, 100, 0);
            SlowLaw law = new SlowLaw(random, 1 + random.nextInt(3), 300, 5000);
            law.tell(mill);
            int gap = random.nextInt(1000);
            int b = random.nextInt(1999) - 999;
            int h = 1 + random.nextInt(99);
            int n = random.nextInt(100);
            long[] in = new long[5];
            long[] out = new long[5];
            long allIn = 0;
            long allOut = 0;
            for (int i = 0; i < 5; i++) {
                in[i] = 1 + random.nextInt(1500);
                int more = times[i] * Math.abs(b) / 10;
                out[i] = law.bite(stiffness, Math.max(0, b < 0 ? gap - more : gap + more), (int) in[i], h);
                allIn += in[i];
                allOut += out[i];
            }
            int due = 0;
            for (int i = 0; i < 5; i++) {
                due |= 1000 * (in[i] * allOut - allIn * out[i]) > n * allIn * out[i] ? 1 << i : 0;
            }
            mill.gap(0, gap);
            Check.same("waves", mill.waves(0, (int) in[0], (int) in[1], (int) in[2], (int) in[3], (int) in[4], h, b, n), due);
        }
    }
}
