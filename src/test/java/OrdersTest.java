import java.util.Random;

/** Promises 25 to 27: orders, the best row. */
public final class OrdersTest {
    public static void main(String[] args) {
        ordersAndTheirEdges();
        rowOfNoneAndOne();
        coinSideBySide();
        coinOfChanges();
        coinOfLate();
        ties();
        keptRow();
        randomRows();
        nineOrders();
        Check.end("OrdersTest");
    }

    private static void ordersAndTheirEdges() {
        int[] least = {1, 1, 1, 0};
        int[] most = {9999, 60_000, 99, 999};
        int[] plain = {100, 1000, 5, 10};
        for (int i = 0; i < 4; i++) {
            int[] told = plain.clone();
            told[i] = least[i];
            Check.same("number " + i + " at its least", add(new RollMill(), told), 0);
            told[i] = most[i];
            Check.same("number " + i + " at its most", add(new RollMill(), told), 0);
            told[i] = least[i] - 1;
            Check.none("number " + i + " below its least", add(new RollMill(), told));
            told[i] = most[i] + 1;
            Check.none("number " + i + " above its most", add(new RollMill(), told));
        }
        RollMill mill = new RollMill();
        for (int i = 0; i < 9; i++) {
            Check.same("order", add(mill, plain), i);
        }
        Check.none("a tenth order", add(mill, plain));
        Check.same("orders", mill.count(5), 9);
    }

    private static int add(RollMill mill, int[] n) {
        return mill.order(n[0], n[1], n[2], n[3]);
    }

    private static void rowOfNoneAndOne() {
        RollMill mill = new RollMill();
        Check.noSuch("nothing kept", () -> mill.rowed(0));
        Check.same("row of none", mill.row(), 0);
        Check.noSuch("nothing in it", () -> mill.rowed(0));
        mill.order(1, 1, 99, 0);
        Check.noSuch("not found yet", () -> mill.rowed(0));
        Check.same("late by all its ticks", mill.row(), 198);
        Check.same("the only one, without a change", mill.rowed(0), 0);
        Check.noSuch("rowed 1", () -> mill.rowed(1));
        Check.noSuch("rowed -1", () -> mill.rowed(-1));
        Check.noSuch("rowed far off", () -> mill.rowed(Integer.MAX_VALUE));
    }

    private static void coinSideBySide() {
        RollMill mill = new RollMill();
        mill.order(100, 1000, 1, 999);
        mill.order(100, 1199, 1, 999);
        Check.same("1 for 199", mill.row(), 1);
        same(mill, 0, 1);
        mill.order(101, 3000, 1, 999);
        Check.same("the widest ahead, then the nearer one: 18 and 1", mill.row(), 19);
        same(mill, 2, 1, 0);
    }

    private static void same(RollMill mill, int... due) {
        for (int i = 0; i < due.length; i++) {
            Check.same("rowed " + i, mill.rowed(i), due[i]);
        }
        Check.noSuch("behind the row", () -> mill.rowed(due.length));
    }

    private static void coinOfChanges() {
        RollMill mill = new RollMill();
        mill.order(100, 1000, 1, 999);
        mill.order(100, 3600, 1, 999);
        Check.same("26 for the difference, 25 for a change", mill.row(), 25);
        same(mill, 0, 101);
        RollMill like = new RollMill();
        like.order(100, 1000, 1, 999);
        like.order(100, 3500, 1, 999);
        Check.same("of like coin without a change", like.row(), 25);
        same(like, 0, 1);
        RollMill wider = new RollMill();
        wider.order(100, 1000, 1, 1);
        wider.order(200, 1000, 1, 7);
        Check.same("40 for wider, 25 for a change, 2 for one late", wider.row(), 2);
        same(wider, 1, 0);
        wider.order(300, 1000, 93, 100);
        Check.same("a change takes 5 ticks", wider.row(), 2 + 25);
        same(wider, 1, 0, 102);
    }

    private static void coinOfLate() {
        RollMill mill = new RollMill();
        mill.order(200, 1000, 10, 10);
        mill.order(100, 1000, 10, 19);
        Check.same("one tick late", mill.row(), 2);
        mill.order(100, 60_000, 10, 35);
        Check.same("just in time behind a change", mill.row(), 2 + 25);
        same(mill, 0, 1, 102);
        RollMill late = new RollMill();
        late.order(200, 1000, 10, 10);
        late.order(100, 1000, 10, 19);
        late.order(100, 60_000, 10, 34);
        Check.same("one tick late behind it", late.row(), 2 + 25 + 2);
    }

    private static void ties() {
        RollMill mill = new RollMill();
        for (int i = 0; i < 4; i++) {
            mill.order(100, 1000, 1, 999);
        }
        Check.same("all alike", mill.row(), 0);
        same(mill, 0, 1, 2, 3);
        RollMill changes = new RollMill();
        changes.order(5, 10_000, 1, 999);
        changes.order(5, 20_000, 1, 999);
        changes.order(5, 10_000, 1, 999);
        Check.same("one change is enough", changes.row(), 25);
        same(changes, 0, 2, 101);
        RollMill late = new RollMill();
        late.order(5, 1000, 1, 999);
        late.order(5, 3500, 1, 999);
        late.order(5, 6100, 1, 999);
        Check.same("25 and 25, or 25 and 26", late.row(), 50);
        same(late, 0, 1, 102);
        RollMill early = new RollMill();
        early.order(5, 1000, 1, 999);
        early.order(5, 3600, 1, 999);
        early.order(5, 6200, 1, 999);
        Check.same("two changes, at 26 and 26", early.row(), 50);
        same(early, 0, 101, 102);
    }

    private static void keptRow() {
        RollMill mill = new RollMill();
        mill.order(100, 1000, 5, 10);
        mill.order(120, 1000, 5, 10);
        Check.same("the wider ahead", mill.row(), 0);
        Check.same("the same again", mill.row(), 0);
        mill.order(130, 1500, 5, 10);
        same(mill, 1, 0);
        Check.same("with the third", mill.row(), 15);
        same(mill, 2, 1, 0);
        Check.none("no order", mill.order(0, 1, 1, 1));
        same(mill, 2, 1, 0);
    }

    private static void randomRows() {
        Random random = new Random(17);
        for (int round = 0; round < 400; round++) {
            RollMill mill = new RollMill();
            int n = 2 + random.nextInt(round % 40 == 0 ? 6 : 4);
            int[][] orders = new int[n][];
            boolean few = random.nextBoolean();
            for (int i = 0; i < n; i++) {
                orders[i] = new int[] {1 + random.nextInt(3), 1 + 500 * random.nextInt(few ? 9 : 3) + random.nextInt(300),
                    1 + random.nextInt(12), random.nextInt(few ? 20 : 90)};
                add(mill, orders[i]);
            }
            SlowRow slow = new SlowRow(orders);
            Check.same("coin", mill.row(), slow.coin());
            same(mill, slow.best());
        }
    }

    /** Each one much thinner than the one ahead, and due in its turn. */
    private static void nineOrders() {
        RollMill mill = new RollMill();
        for (int i = 8; i >= 0; i--) {
            mill.order(9 - i, 60_000 - 6000 * i, 99, 999);
        }
        Check.same("with changes or without, the widest ahead", mill.row(), 8 * 25);
        same(mill, 0, 101, 102, 103, 104, 105, 106, 107, 108);
        RollMill latest = new RollMill();
        for (int i = 0; i < 9; i++) {
            latest.order(5, 1 + i % 2 * 59_999, 99, 0);
        }
        Check.same("the dearest: one change", latest.row(), 2 * 99 * 45 + 25 + 2 * 5 * 4);
        same(latest, 0, 2, 4, 6, 8, 101, 3, 5, 7);
    }
}
