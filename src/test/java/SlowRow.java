/** The best row of orders, found by trying all of them with all changes. */
final class SlowRow {
    private final int[][] orders;
    private final int[] row;
    private final boolean[] changed;
    private int[] bestRow;
    private boolean[] bestChanged;
    private int bestCoin;

    SlowRow(int[][] orders) {
        this.orders = orders;
        row = new int[orders.length];
        changed = new boolean[orders.length];
        tryFrom(0);
    }

    int coin() {
        return bestCoin;
    }

    int[] best() {
        int[] all = bestRow.clone();
        for (int i = 0; i < all.length; i++) {
            all[i] += bestChanged[i] ? 100 : 0;
        }
        return all;
    }

    private void tryFrom(int place) {
        if (place == row.length) {
            int coin = coinOf();
            if (bestRow == null || isBetter(coin)) {
                bestRow = row.clone();
                bestChanged = changed.clone();
                bestCoin = coin;
            }
            return;
        }
        for (int order = 0; order < row.length; order++) {
            boolean used = false;
            for (int i = 0; i < place; i++) {
                used |= row[i] == order;
            }
            for (int change = 0; change < (used ? 0 : place == 0 ? 1 : 2); change++) {
                row[place] = order;
                changed[place] = change == 1;
                tryFrom(place + 1);
            }
        }
    }

    private int coinOf() {
        int coin = 0;
        int end = 0;
        for (int i = 0; i < row.length; i++) {
            int[] order = orders[row[i]];
            if (changed[i]) {
                coin += 25;
                end += 5;
            } else if (i > 0) {
                int[] ahead = orders[row[i - 1]];
                coin += Math.abs(order[1] - ahead[1]) / 100 + (order[0] > ahead[0] ? 40 : 0);
            }
            end += order[2];
            coin += end > order[3] ? 2 * (end - order[3]) : 0;
        }
        return coin;
    }

    private boolean isBetter(int coin) {
        int by = Integer.compare(coin, bestCoin);
        by = by != 0 ? by : Integer.compare(many(changed), many(bestChanged));
        for (int i = 0; i < row.length && by == 0; i++) {
            by = Integer.compare(row[i], bestRow[i]);
        }
        for (int i = 0; i < row.length && by == 0; i++) {
            by = Boolean.compare(changed[i], bestChanged[i]);
        }
        return by < 0;
    }

    private static int many(boolean[] all) {
        int found = 0;
        for (boolean one : all) {
            found += one ? 1 : 0;
        }
        return found;
    }
}
