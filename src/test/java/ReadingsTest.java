import java.util.Random;

/** Promises 28 to 32: evenings, readings, what is known, counts. */
public final class ReadingsTest {
    public static void main(String[] args) {
        evenings();
        readingsAndTheirEdges();
        back();
        knownByEvenings();
        off();
        knownWrong();
        randomReadings();
        counts();
        Check.end("ReadingsTest");
    }

    private static void evenings() {
        RollMill mill = new RollMill();
        Check.same("none goes by", mill.evenings(0), 0);
        Check.same("three", mill.evenings(3), 3);
        Check.illegal("below 0", () -> mill.evenings(-1));
        Check.illegal("above 99", () -> mill.evenings(97));
        Check.illegal("far above", () -> mill.evenings(Integer.MAX_VALUE));
        Check.same("tonight stayed", mill.count(0), 3);
        Check.same("the last one", mill.evenings(96), 99);
        Check.illegal("behind the last one", () -> mill.evenings(1));
        Check.same("none goes by", mill.evenings(0), 99);
    }

    private static void readingsAndTheirEdges() {
        RollMill mill = new RollMill();
        Check.same("at the least", mill.reading(0, 0, 1), 0);
        Check.same("at the most", mill.reading(9, 39, 60_000), 1);
        Check.none("coil -1", mill.reading(-1, 0, 1));
        Check.none("coil 10", mill.reading(10, 0, 1));
        Check.none("place -1", mill.reading(0, -1, 1));
        Check.none("place 40", mill.reading(0, 40, 1));
        Check.none("thickness 0", mill.reading(0, 0, 0));
        Check.none("thickness 60001", mill.reading(0, 0, 60_001));
        for (int i = 2; i < 100; i++) {
            Check.same("reading", mill.reading(0, 0, i), i);
        }
        Check.none("the 101st", mill.reading(0, 0, 5));
        Check.same("readings", mill.count(6), 100);
        Check.same("the last one counts", mill.known(0, 1, 0, 0, 0), 99);
        Check.holds("the last one is taken back", mill.back(99));
        Check.same("the last but one counts", mill.known(0, 1, 0, 0, 0), 98);
        Check.none("taken back, it still counts for the limit", mill.reading(0, 0, 5));
    }

    private static void back() {
        RollMill mill = new RollMill();
        Check.noSuch("reading 0", () -> mill.back(0) ? 1 : 0);
        mill.reading(0, 3, 1000);
        mill.reading(0, 3, 1010);
        Check.noSuch("reading -1", () -> mill.back(-1) ? 1 : 0);
        Check.noSuch("reading 2", () -> mill.back(2) ? 1 : 0);
        mill.evenings(1);
        Check.holds("taken back", mill.back(1));
        mill.evenings(1);
        Check.holds("it was", !mill.back(1));
        Check.same("known before", mill.known(0, 1, 0, 0, 0), 1010);
        Check.same("not from that evening on", mill.known(0, 1, 0, 0, 1), 1000);
        Check.same("nor later", mill.known(0, 1, 0, 0, 2), 1000);
    }

    private static void knownByEvenings() {
        RollMill mill = new RollMill();
        mill.reading(4, 7, 100);
        mill.reading(5, 7, 9);
        mill.evenings(2);
        mill.reading(4, 7, 200);
        mill.reading(4, 8, 1000);
        mill.evenings(1);
        mill.back(2);
        mill.reading(4, 0, 5000);
        int[] places = {1, 1, 2, 3};
        int[] sums = {100, 100, 1200, 6100};
        for (int k = 0; k <= 3; k++) {
            Check.same("places on " + k, mill.known(4, 0, 0, 0, k), places[k]);
            Check.same("sum on " + k, mill.known(4, 1, 0, 0, k), sums[k]);
        }
        mill.back(4);
        Check.same("told and taken back on one evening", mill.known(4, 0, 0, 0, 3), 2);
        Check.same("another coil", mill.known(5, 1, 0, 0, 3), 9);
        Check.same("a coil without readings", mill.known(0, 0, 0, 0, 3), 0);
        Check.same("its sum", mill.known(0, 1, 0, 0, 3), 0);
        Check.none("nothing off", mill.known(0, 2, 60_000, 0, 3));
        Check.same("none off", mill.known(0, 3, 60_000, 0, 3), 0);
    }

    private static void off() {
        RollMill mill = new RollMill();
        mill.reading(0, 9, 1000);
        mill.reading(0, 2, 1005);
        mill.reading(0, 30, 994);
        Check.same("least place off by more than 4", mill.known(0, 2, 1000, 4, 0), 2);
        Check.same("least place off by more than 5", mill.known(0, 2, 1000, 5, 0), 30);
        Check.none("off by more than 6", mill.known(0, 2, 1000, 6, 0));
        Check.same("how many by more than 4", mill.known(0, 3, 1000, 4, 0), 2);
        Check.same("how many by more than 5", mill.known(0, 3, 1000, 5, 0), 1);
        Check.same("how many by more than 6", mill.known(0, 3, 1000, 6, 0), 0);
        Check.same("any thickness may be asked", mill.known(0, 3, Integer.MIN_VALUE, Integer.MAX_VALUE, 0), 3);
        Check.same("the greatest, too", mill.known(0, 3, Integer.MAX_VALUE, Integer.MAX_VALUE - 1000, 0), 1);
        Check.same("the least off it", mill.known(0, 2, Integer.MAX_VALUE, Integer.MAX_VALUE - 1000, 0), 30);
        Check.same("by more than 0", mill.known(0, 3, 0, 999, 0), 2);
    }

    private static void knownWrong() {
        RollMill mill = new RollMill();
        mill.evenings(3);
        Check.noSuch("coil -1", () -> mill.known(-1, 0, 0, 0, 0));
        Check.noSuch("coil 10, and e below 0", () -> mill.known(10, 0, 0, -1, 0));
        Check.noSuch("what -1", () -> mill.known(0, -1, 0, 0, 0));
        Check.noSuch("what 4, and no such evening", () -> mill.known(0, 4, 0, 0, 9));
        Check.illegal("evening -1", () -> mill.known(0, 0, 0, 0, -1));
        Check.illegal("evening 4", () -> mill.known(0, 0, 0, 0, 4));
        Check.illegal("e -1", () -> mill.known(0, 0, 0, -1, 0));
        Check.same("all at their edge", mill.known(9, 3, 0, 0, 3), 0);
    }

    private static void randomReadings() {
        Random random = new Random(23);
        for (int round = 0; round < 100; round++) {
            RollMill mill = new RollMill();
            int[][] told = new int[100][];
            int tonight = 0;
            int many = 0;
            for (int i = 0; i < 130; i++) {
                switch (random.nextInt(4)) {
                    case 0:
                        tonight = mill.evenings(random.nextInt(2));
                        break;
                    case 1:
                        int which = random.nextInt(many + 1);
                        if (which < many && told[which][4] == 1000) {
                            told[which][4] = tonight;
                            Check.holds("back", mill.back(which));
                        }
                        break;
                    default:
                        if (many < 100) {
                            told[many] = new int[] {random.nextInt(2), random.nextInt(5), 1 + random.nextInt(9), tonight, 1000};
                            Check.same("reading", mill.reading(told[many][0], told[many][1], told[many][2]), many);
                            many++;
                        }
                        break;
                }
            }
            int k = random.nextInt(tonight + 1);
            sameKnown(mill, told, many, k, random.nextInt(10), random.nextInt(4));
        }
    }

    private static void sameKnown(RollMill mill, int[][] told, int many, int k, int thickness, int e) {
        int[] due = {0, 0, -1, 0};
        for (int place = 39; place >= 0; place--) {
            int last = 0;
            for (int i = 0; i < many; i++) {
                boolean counts = told[i][0] == 1 && told[i][1] == place && told[i][3] <= k && k < told[i][4];
                last = counts ? told[i][2] : last;
            }
            boolean off = last > 0 && (last > thickness + e || last < thickness - e);
            due[0] += last > 0 ? 1 : 0;
            due[1] += last;
            due[2] = off ? place : due[2];
            due[3] += off ? 1 : 0;
        }
        for (int what = 0; what < 4; what++) {
            Check.same("known " + what, mill.known(1, what, thickness, e, k), due[what]);
        }
    }

    private static void counts() {
        RollMill mill = StandsTest.oneStand();
        mill.evenings(9);
        mill.point(1, 1);
        mill.point(2, 2);
        for (int i = 1; i <= 7; i++) {
            mill.segment(i < 4 ? 1 : 0, 1);
            mill.pass(i < 5 ? i : 0);
            mill.order(i < 6 ? 1 : 0, 1, 1, 1);
            mill.reading(i < 7 ? 0 : -1, 1, 1);
        }
        mill.feed(0, 0, 0, 0, 0);
        int[] due = {9, 1, 2, 3, 4, 5, 6, 20};
        for (int what = 0; what < due.length; what++) {
            Check.same("count " + what, mill.count(what), due[what]);
        }
        Check.noSuch("count -1", () -> mill.count(-1));
        Check.noSuch("count 8", () -> mill.count(8));
    }
}
