import java.util.Random;

/** A mill of random stands and passes, and its best plan found by trying all rows with all gaps. */
final class SlowPlan {
    final RollMill mill = new RollMill();
    final int stands;
    final int in;
    final int hardness;
    final int out;
    int[] bestRow;
    int[] bestPress;
    int[] bestGap;
    private final SlowLaw law;
    private final int[][] told;
    private final int[] passes;
    private final int[] row;
    private final int[] press;
    private final int[] gap;

    SlowPlan(Random random) {
        stands = 1 + random.nextInt(5);
        told = new int[stands][];
        for (int s = 0; s < stands; s++) {
            int low = random.nextInt(30);
            told[s] = new int[] {1 + random.nextInt(random.nextBoolean() ? 60 : 999), 100 + random.nextInt(5000), low,
                low + 20 + random.nextInt(90), random.nextInt(10)};
            mill.stand(told[s][0], told[s][1], low, told[s][3], 1, 1, 100, told[s][4]);
        }
        law = new SlowLaw(random, random.nextInt(5), 20, 100);
        law.tell(mill);
        passes = new int[1 + random.nextInt(6)];
        for (int i = 0; i < passes.length; i++) {
            passes[i] = 10 + 5 * random.nextInt(12);
            mill.pass(passes[i]);
        }
        in = 20 + 5 * random.nextInt(14);
        out = random.nextInt(9) == 0 ? in : passes[random.nextInt(passes.length)];
        hardness = 1 + random.nextInt(99);
        row = new int[stands];
        press = new int[stands];
        gap = new int[stands];
    }

    int best() {
        bestRow = null;
        tryFrom(0, in, hardness);
        return bestRow == null ? -1 : greatest(bestPress);
    }

    private void tryFrom(int s, int goesIn, int hard) {
        if (s == stands) {
            boolean ends = goesIn == out && (out == in || isTold(out));
            if (ends && (bestRow == null || isBetter())) {
                bestRow = row.clone();
                bestPress = press.clone();
                bestGap = gap.clone();
            }
            return;
        }
        for (int goesOut = goesIn; goesOut > 0; goesOut--) {
            if (goesOut == goesIn || isTold(goesOut)) {
                int asked = (int) law.press(goesIn - goesOut, hard);
                int found = asked > told[s][1] ? -1 : greatestGap(s, goesIn, hard, goesOut);
                if (found >= 0) {
                    row[s] = goesOut;
                    press[s] = asked;
                    gap[s] = found;
                    tryFrom(s + 1, goesOut, Math.min(99, hard + told[s][4]));
                }
            }
        }
    }

    private boolean isTold(int thickness) {
        for (int pass : passes) {
            if (pass == thickness) {
                return true;
            }
        }
        return false;
    }

    private int greatestGap(int s, int goesIn, int hard, int goesOut) {
        for (int g = told[s][3]; g >= told[s][2]; g--) {
            if (law.bite(told[s][0], g, goesIn, hard) == goesOut) {
                return g;
            }
        }
        return -1;
    }

    private boolean isBetter() {
        int by = Integer.compare(greatest(press), greatest(bestPress));
        by = by != 0 ? by : Integer.compare(sum(press), sum(bestPress));
        for (int s = 0; s < stands && by == 0; s++) {
            by = Integer.compare(bestRow[s], row[s]);
        }
        return by < 0;
    }

    private static int greatest(int[] all) {
        int found = 0;
        for (int one : all) {
            found = Math.max(found, one);
        }
        return found;
    }

    private static int sum(int[] all) {
        int sum = 0;
        for (int one : all) {
            sum += one;
        }
        return sum;
    }
}
