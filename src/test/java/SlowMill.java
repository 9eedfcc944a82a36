import java.util.ArrayList;
import java.util.Arrays;
import java.util.List;
import java.util.Random;

/** A line with a coil in its plainest form, with one clause a stand: what the quick one must agree with. */
final class SlowMill {
    final int[][] stands;
    final SlowLaw law;
    final int[][] segments;
    final int[] gaps;
    final int[] wears;
    final int[] pulls;
    final int[][] outs;
    final int late;
    final int drift;
    final int tear;
    final int loop;
    final int part;
    List<Integer> gauges;
    int endedAt;
    int greatest;

    SlowMill(Random random) {
        stands = new int[1 + random.nextInt(5)][];
        for (int s = 0; s < stands.length; s++) {
            int low = random.nextInt(300);
            int most = random.nextInt(8) == 0 ? 1 + random.nextInt(90_000) : 9_999_999;
            stands[s] = new int[] {1 + random.nextInt(999), most, low, low + random.nextInt(3000), 1 + random.nextInt(200),
                40 + random.nextInt(30) * (s + 1), 100, random.nextInt(10)};
        }
        law = new SlowLaw(random, random.nextInt(11), 300, 4000);
        segments = new int[1 + random.nextInt(40)][];
        for (int i = 0; i < segments.length; i++) {
            segments[i] = new int[] {1 + random.nextInt(3000), 1 + random.nextInt(99)};
        }
        gaps = new int[stands.length];
        wears = new int[stands.length];
        pulls = new int[stands.length];
        outs = new int[stands.length][segments.length];
        for (int s = 0; s < stands.length; s++) {
            gaps[s] = stands[s][3];
        }
        late = random.nextInt(10);
        drift = random.nextInt(40);
        tear = random.nextInt(2) == 0 ? 99_999 : random.nextInt(500);
        loop = random.nextInt(2) == 0 ? 99_999 : random.nextInt(500);
        part = 1 + random.nextInt(5);
    }

    RollMill fastOne() {
        RollMill mill = new RollMill();
        StringBuilder text = new StringBuilder();
        for (int s = 0; s < stands.length; s++) {
            int[] n = stands[s];
            mill.stand(n[0], n[1], n[2], n[3], n[4], n[5], n[6], n[7]);
            text.append("stand ").append(s).append(" gap gap-(gauge-aim)/").append(part).append("+pull-hard unless in=0;");
        }
        law.tell(mill);
        for (int[] n : segments) {
            mill.segment(n[0], n[1]);
        }
        text.append("late ").append(late).append(";drift ").append(drift);
        text.append(";tear ").append(tear).append(";loop ").append(loop).append(';');
        Check.same("rules", Check.rules(mill, text.toString()), 0);
        return mill;
    }

    int run(int aim) {
        gauges = new ArrayList<>();
        endedAt = -1;
        greatest = 0;
        Arrays.fill(pulls, 0);
        for (int[] row : outs) {
            Arrays.fill(row, -1);
        }
        for (int t = 0; t < segments.length + stands.length - 1; t++) {
            int[] in = new int[stands.length];
            int[] hard = new int[stands.length];
            for (int s = 0; s < stands.length; s++) {
                int i = t - s;
                if (i < 0 || i >= segments.length) {
                    continue;
                }
                in[s] = s == 0 ? segments[i][0] : outs[s - 1][i];
                hard[s] = segments[i][1];
                for (int q = 0; q < s; q++) {
                    hard[s] = Math.min(99, hard[s] + stands[q][7]);
                }
                int out = law.bite(stands[s][0], gaps[s] + wears[s] / 1000, in[s], hard[s]);
                int press = (int) law.press(in[s] - out, hard[s]);
                greatest = Math.max(greatest, press);
                if (press > stands[s][1]) {
                    endedAt = s;
                    return 1;
                }
                wears[s] += press / 100;
                outs[s][i] = out;
            }
            int end = pullAll(t, in);
            if (end != 0) {
                return end;
            }
            moveAll(t, aim, in, hard);
        }
        return 0;
    }

    private int pullAll(int t, int[] in) {
        for (int s = 0; s + 1 < stands.length; s++) {
            boolean both = in[s] > 0 && in[s + 1] > 0;
            pulls[s] = both ? pulls[s] + (stands[s + 1][5] * in[s + 1] - stands[s][5] * outs[s][t - s]) / 1000 : 0;
        }
        for (int s = 0; s + 1 < stands.length; s++) {
            if (pulls[s] > tear || pulls[s] < -loop) {
                endedAt = s;
                return pulls[s] > tear ? 2 : 3;
            }
        }
        return 0;
    }

    private void moveAll(int t, int aim, int[] in, int[] hard) {
        int heard = t - late - (stands.length - 1);
        boolean none = heard < 0 || heard >= segments.length;
        int gauge = none ? 0 : outs[stands.length - 1][heard] + drift * t / 10;
        gauges.add(gauge);
        for (int s = 0; s < stands.length; s++) {
            if (in[s] == 0) {
                continue;
            }
            int wanted = gaps[s] - (gauge - aim) / part + pulls[s] - hard[s];
            for (int screw = 0; screw < stands[s][4] && wanted != gaps[s]; screw++) {
                int next = wanted > gaps[s] ? gaps[s] + 1 : gaps[s] - 1;
                gaps[s] = next >= stands[s][2] && next <= stands[s][3] ? next : gaps[s];
            }
        }
    }
}
