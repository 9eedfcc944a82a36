/** Promises 25 to 27 at their edges, sentence by sentence: orders and the best row. */
public final class OrdersEdgesTest {
    private static final int MIN = Integer.MIN_VALUE;
    private static final int MAX = Integer.MAX_VALUE;

    public static void main(String[] args) {
        orderNumbers();
        nineOrders();
        rowOfNone();
        rowOfOne();
        hundredsOfThickness();
        widerSecond();
        changesAndTheirTicks();
        behindItsDue();
        fewestChanges();
        firstAsARow();
        changesAsLateAsMayBe();
        changesOfNine();
        eachOnce();
        dearestRow();
        rowThatIsKept();
        rowedEdges();
        Check.end("OrdersEdgesTest");
    }

    private static RollMill orders(int[]... orders) {
        RollMill mill = new RollMill();
        for (int i = 0; i < orders.length; i++) {
            Check.same("order", mill.order(orders[i][0], orders[i][1], orders[i][2], orders[i][3]), i);
        }
        return mill;
    }

    private static void best(String what, RollMill mill, int coin, int... row) {
        Check.same(what + ": coin", mill.row(), coin);
        for (int i = 0; i < row.length; i++) {
            Check.same(what + ": rowed " + i, mill.rowed(i), row[i]);
        }
        Check.noSuch(what + ": no more", () -> mill.rowed(row.length));
    }

    /** Promise 25: NONE, a number is not as told. */
    private static void orderNumbers() {
        int[][] edges = {{1, 9999, 100}, {1, 60_000, 1000}, {1, 99, 5}, {0, 999, 10}};
        Twins.noneBeyond("the first order", Mills::empty, (mill, n) -> mill.order(n[0], n[1], n[2], n[3]), edges);
        Twins.noneBeyond("the fourth order", Mills::some, (mill, n) -> mill.order(n[0], n[1], n[2], n[3]), edges);
    }

    /** From 0 on, at most 9; NONE: there are 9. */
    private static void nineOrders() {
        RollMill mill = new RollMill();
        for (int i = 0; i < 9; i++) {
            Check.same("its number", mill.order(9999, 60_000, 99, 999), i);
        }
        Check.none("the tenth", mill.order(9999, 60_000, 99, 999));
        Check.same("nine", mill.count(5), 9);
        Twins.none("the tenth", Mills::full, full -> full.order(1, 1, 1, 0));
    }

    /** Promise 26: its coin (0 of none). */
    private static void rowOfNone() {
        RollMill mill = new RollMill();
        best("none", mill, 0);
        best("none again", mill, 0);
        Check.none("refused", mill.order(0, 0, 0, 0));
        best("still none", mill, 0);
    }

    /** With ROLLS changed ahead of some (not of the first). */
    private static void rowOfOne() {
        best("in time", orders(new int[] {9999, 60_000, 99, 99}), 0, 0);
        best("a tick behind its due", orders(new int[] {1, 1, 99, 98}), 2, 0);
        best("the least", orders(new int[] {1, 1, 1, 0}), 2, 0);
        best("the dearest", orders(new int[] {1, 1, 99, 0}), 198, 0);
    }

    /** 1 for each 100 of thickness by which they differ, cut down. */
    private static void hundredsOfThickness() {
        int[] differ = {0, 99, 100, 199, 200, 2499, 2500, 2599};
        for (int d : differ) {
            best("thicker by " + d, orders(new int[] {5, 1000, 1, 999}, new int[] {5, 1000 + d, 1, 999}), d / 100, 0, 1);
            best("thinner by " + d, orders(new int[] {5, 1000 + d, 1, 999}, new int[] {5, 1000, 1, 999}), d / 100, 0, 1);
        }
        best("by 26 hundreds a change is less", orders(new int[] {5, 1000, 1, 999}, new int[] {5, 3600, 1, 999}), 25, 0, 101);
        best("by all there is", orders(new int[] {5, 1, 1, 999}, new int[] {5, 60_000, 1, 999}), 25, 0, 101);
    }

    /** And 40 if the second one is wider. */
    private static void widerSecond() {
        // The first one must go first: it is due at once, and late by 99 it would cost 198.
        best("as wide", orders(new int[] {5, 1000, 1, 1}, new int[] {5, 1000, 99, 999}), 0, 0, 1);
        best("narrower", orders(new int[] {5, 1000, 1, 1}, new int[] {4, 1000, 99, 999}), 0, 0, 1);
        best("wider by 1: a change is less", orders(new int[] {5, 1000, 1, 1}, new int[] {6, 1000, 99, 999}), 25, 0, 101);
        best("wider, and late by a change: 25 and 2 times 5", orders(new int[] {5, 1000, 1, 1}, new int[] {6, 1000, 99, 100}), 35, 0, 101);
        best("wider, and two are late by a change: 40", orders(new int[] {5, 1000, 1, 1}, new int[] {6, 1000, 98, 99},
                new int[] {6, 1000, 99, 198}), 40, 0, 1, 2);
        best("wider by 1 and thicker by 300: 43", orders(new int[] {5, 1000, 1, 1}, new int[] {6, 1300, 98, 99},
                new int[] {6, 1300, 99, 198}), 43, 0, 1, 2);
    }

    /** A change 25, and 5 TICKS. */
    private static void changesAndTheirTicks() {
        for (int due = 4; due <= 8; due++) {
            RollMill mill = orders(new int[] {5, 1, 1, 1}, new int[] {5, 60_000, 1, due});
            best("due " + due, mill, 25 + 2 * Math.max(0, 7 - due), 0, 101);
        }
        RollMill like = orders(new int[] {5, 1000, 1, 1}, new int[] {5, 4500, 1, 2});
        best("35 hundreds, or 25 and five ticks late: fewest changes", like, 35, 0, 1);
        RollMill less = orders(new int[] {5, 1000, 1, 1}, new int[] {5, 4600, 1, 2});
        best("36 hundreds", less, 35, 0, 101);
    }

    /** 2 for each TICK by which one ends behind its due. */
    private static void behindItsDue() {
        for (int due = 8; due <= 12; due++) {
            best("due " + due, orders(new int[] {5, 1, 10, due}), 2 * Math.max(0, 10 - due), 0);
        }
        best("each by itself", orders(new int[] {5, 1, 10, 9}, new int[] {5, 1, 10, 18}), 2 + 4, 0, 1);
        best("the shorter one ahead", orders(new int[] {5, 1, 10, 0}, new int[] {5, 1, 9, 0}), 2 * (9 + 19), 1, 0);
        best("no coin back for being early", orders(new int[] {5, 1, 10, 999}, new int[] {5, 1, 10, 9}), 2, 1, 0);
    }

    /** Of like ones fewest changes. */
    private static void fewestChanges() {
        best("25 by thickness or by a change", orders(new int[] {5, 1000, 1, 999}, new int[] {5, 3500, 1, 999}), 25, 0, 1);
        best("order 1 ahead without a change, not order 0 with one",
                orders(new int[] {5, 1000, 5, 5}, new int[] {6, 3500, 5, 999}), 25, 0, 101);
        best("25 with a change or without: the later row without", orders(new int[] {5, 1000, 1, 999}, new int[] {6, 3500, 1, 999}), 25, 1, 0);
    }

    /** Of like ones the first as a row of ORDERS. */
    private static void firstAsARow() {
        int[] alike = {5, 1000, 1, 999};
        best("two alike", orders(alike, alike), 0, 0, 1);
        best("nine alike", orders(alike, alike, alike, alike, alike, alike, alike, alike, alike), 0, 0, 1, 2, 3, 4, 5, 6, 7, 8);
        int[] wide = {6, 1000, 1, 999};
        best("the wide ones ahead, in order", orders(alike, wide, alike, wide), 0, 1, 3, 0, 2);
        int[] far = {5, 30_000, 1, 999};
        best("either side ahead, one change", orders(far, alike, far, alike), 25, 0, 2, 101, 3);
    }

    /** Of like ones changes as late as may be (the first place where they part: no change). */
    private static void changesAsLateAsMayBe() {
        // One change delays the last one just to its due, so that one is best, and it may stand at any place.
        best("one of two places", orders(new int[] {5, 1000, 1, 1}, new int[] {5, 4000, 1, 7}, new int[] {5, 7000, 99, 106}), 55, 0, 1, 102);
        int[][] four = {{5, 1000, 1, 1}, {5, 4000, 1, 7}, {5, 7000, 1, 13}, {5, 10_000, 99, 107}};
        best("one of three places", orders(four), 85, 0, 1, 2, 103);
        four[3][3] = 112;
        best("two of three places", orders(four), 80, 0, 1, 102, 103);
        four[3][3] = 117;
        best("three of three places", orders(four), 75, 0, 101, 102, 103);
        int[][] first = {{5, 1, 1, 1}, {5, 2601, 1, 7}, {5, 5101, 93, 100}};
        best("only at the first place", orders(first), 50, 0, 101, 2);
    }

    /** Nine with a change ahead of each but the first, of some, of none. */
    private static void changesOfNine() {
        int[][] far = new int[9][];
        int[][] two = new int[9][];
        int[][] last = new int[9][];
        for (int i = 0; i < 9; i++) {
            far[i] = new int[] {5, 1 + 6000 * i, 1, 999};
            two[i] = new int[] {5, 1 + 50_000 * (i % 2), 1, 999};
            last[i] = new int[] {5, i == 7 ? 50_000 : 1, 1, 999};
        }
        best("ahead of each", orders(far), 200, 0, 101, 102, 103, 104, 105, 106, 107, 108);
        best("ahead of one, an odd one last", orders(two), 25, 0, 2, 4, 6, 8, 101, 3, 5, 7);
        best("ahead of the last", orders(last), 25, 0, 1, 2, 3, 4, 5, 6, 8, 107);
        last[0] = new int[] {5, 30_000, 1, 1};
        best("ahead of the second and the last", orders(last), 50, 0, 101, 2, 3, 4, 5, 6, 8, 107);
    }

    /** A ROW of all of them: each one once, though a second time between two others would spare a coin. */
    private static void eachOnce() {
        int[][] inTurn = {{5, 60, 1, 1}, {5, 240, 9, 11}, {5, 61, 99, 110}, {5, 150, 1, 999}};
        best("180 and 179 cost 1, by way of 150 nothing", orders(inTurn), 1, 0, 1, 3, 2);
        RollMill mill = Mills.full();
        int met = 0;
        for (int i = 0; i < 9; i++) {
            met |= 1 << mill.rowed(i) % 100;
        }
        Check.same("all nine", met, 511);
    }

    /** The coin of nine orders that are all late. */
    private static void dearestRow() {
        RollMill mill = new RollMill();
        for (int i = 0; i < 9; i++) {
            mill.order(1 + i, 1 + 7000 * (i * 4 % 9), 99, 0);
        }
        int coin = mill.row();
        int due = 0;
        int end = 0;
        for (int i = 0; i < 9; i++) {
            int rowed = mill.rowed(i);
            int order = rowed % 100;
            int ahead = i > 0 ? mill.rowed(i - 1) % 100 : order;
            Check.holds("no change ahead of the first", i > 0 || rowed < 100);
            int beside = Math.abs(order * 4 % 9 - ahead * 4 % 9) * 70 + (order > ahead ? 40 : 0);
            due += rowed >= 100 ? 25 : beside;
            end += rowed >= 100 ? 104 : 99;
            due += 2 * end;
        }
        Check.same("its coin by the row itself", coin, due);
        Check.holds("at least 2 for each tick", coin >= 2 * 99 * 45);
    }

    /** THE BEST ROW of all ORDERS is found and kept. */
    private static void rowThatIsKept() {
        RollMill mill = orders(new int[] {5, 1000, 1, 999}, new int[] {6, 1000, 1, 999});
        Check.noSuch("not yet found", () -> mill.rowed(0));
        best("found", mill, 0, 1, 0);
        mill.order(7, 1000, 1, 999);
        Check.same("kept: first", mill.rowed(0), 1);
        Check.same("kept: second", mill.rowed(1), 0);
        Check.noSuch("the third order isn't in it", () -> mill.rowed(2));
        best("found anew", mill, 0, 2, 1, 0);
        best("found once more", mill, 0, 2, 1, 0);
    }

    /** Promise 27: NoSuchElementException, there is none. */
    private static void rowedEdges() {
        for (int i : new int[] {-1, 3, 9, 100, MIN, MAX}) {
            Twins.noSuch("rowed " + i, Mills::some, mill -> mill.rowed(i));
        }
        for (int i : new int[] {-1, 9, 10, MIN, MAX}) {
            Twins.noSuch("rowed " + i, Mills::full, mill -> mill.rowed(i));
        }
        Twins.noSuch("nothing kept", Mills::empty, mill -> mill.rowed(0));
        Twins.asks("the first", Mills::some, mill -> mill.rowed(0), 2);
        Twins.asks("the last", Mills::full, mill -> mill.rowed(8), 4);
    }
}
