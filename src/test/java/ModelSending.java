/**
 * The LEAST cost by another way than the class goes: all is sent anyhow at first, then as long as
 * there is a ring of ways along which moving bushels saves something, they are moved.
 */
final class ModelSending {
    private ModelSending() {
    }

    static long least(long[] have, long[] want, long[] cost) {
        int b = have.length;
        int o = want.length;
        // An order more takes what is not sent, for nothing.
        long rest = 0;
        for (long v : have) {
            rest += v;
        }
        for (long v : want) {
            rest -= v;
        }
        long[][] sent = new long[b][o + 1];
        long[][] price = new long[b][o + 1];
        long[] left = have.clone();
        for (int j = 0; j <= o; j++) {
            long need = j < o ? want[j] : rest;
            for (int i = 0; i < b; i++) {
                price[i][j] = j < o ? cost[i * o + j] : 0;
                long v = Math.min(need, left[i]);
                sent[i][j] = v;
                need -= v;
                left[i] -= v;
            }
        }
        while (improved(sent, price)) {
            continue;
        }
        long all = 0;
        for (int i = 0; i < b; i++) {
            for (int j = 0; j <= o; j++) {
                all += sent[i][j] * price[i][j];
            }
        }
        return all;
    }

    // A ring: bins i0 i1 .. with orders j0 j1 ..: one more from each i to its j, one less to the j before.
    private static boolean improved(long[][] sent, long[][] price) {
        int b = sent.length;
        int o = sent[0].length;
        for (int first = 0; first < b; first++) {
            if (ring(sent, price, new int[b], new int[b], 0, first, 0, 0, 0)) {
                return true;
            }
        }
        return false;
    }

    private static boolean ring(long[][] sent, long[][] price, int[] bins, int[] orders, int length, int bin,
            int usedBins, int usedOrders, long gain) {
        bins[length] = bin;
        int used = usedBins | 1 << bin;
        for (int j = 0; j < sent[0].length; j++) {
            if ((usedOrders >> j & 1) == 1) {
                continue;
            }
            orders[length] = j;
            long cost = gain + price[bin][j];
            // Close the ring: the first bin gives order j up.
            if (length > 0 && sent[bins[0]][j] > 0 && cost - price[bins[0]][j] < 0) {
                for (int k = 0; k <= length; k++) {
                    sent[bins[k]][orders[k]]++;
                    sent[bins[(k + 1) % (length + 1)]][orders[k]]--;
                }
                return true;
            }
            for (int next = 0; next < sent.length; next++) {
                if ((used >> next & 1) == 0 && sent[next][j] > 0
                        && ring(sent, price, bins, orders, length + 1, next, used, usedOrders | 1 << j,
                                cost - price[next][j])) {
                    return true;
                }
            }
        }
        return false;
    }
}
