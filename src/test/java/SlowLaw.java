import java.util.Random;

/** The bite law in its plainest form. */
final class SlowLaw {
    final int[][] points;

    SlowLaw(Random random, int many, int draft, int press) {
        points = new int[many][2];
        for (int i = 0; i < many; i++) {
            points[i][0] = (i == 0 ? 0 : points[i - 1][0]) + 1 + random.nextInt(draft);
            points[i][1] = (i == 0 ? 0 : points[i - 1][1]) + 1 + random.nextInt(press);
        }
    }

    void tell(RollMill mill) {
        for (int i = 0; i < points.length; i++) {
            Check.same("point", mill.point(points[i][0], points[i][1]), i + 1);
        }
    }

    long press(long x, long h) {
        if (points.length == 0) {
            return 0;
        }
        int to = 0;
        while (to < points.length - 1 && points[to][0] < x) {
            to++;
        }
        long d = to == 0 ? 0 : points[to - 1][0];
        long p = to == 0 ? 0 : points[to - 1][1];
        long line = p + Math.floorDiv((x - d) * (points[to][1] - p), points[to][0] - d);
        return Math.min(999_999_999, line * h / 10);
    }

    /** What goes out, by the gap with what the wear adds. */
    int bite(int stiffness, int gap, int in, int h) {
        if (gap >= in) {
            return in;
        }
        int out = 1;
        while ((long) (out - gap) * stiffness < press(in - out, h)) {
            out++;
        }
        return out;
    }
}
