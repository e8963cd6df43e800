import java.util.Arrays;

/** The greatest sum of gains by the Hungarian method: another way to the best than the class goes. */
final class Hungarian {
    private static final long FAR = Long.MAX_VALUE / 4;

    private Hungarian() {
    }

    /** A gain of 0 or less is no pair. */
    static long greatest(long[][] gains, boolean[] isPieceOut, boolean[] isOrderOut) {
        int n = gains.length;
        long[] rowPrice = new long[n + 1];
        long[] columnPrice = new long[n + 1];
        int[] rowOf = new int[n + 1];
        int[] cameFrom = new int[n + 1];
        for (int row = 1; row <= n; row++) {
            rowOf[0] = row;
            int column = 0;
            long[] slack = new long[n + 1];
            boolean[] isSeen = new boolean[n + 1];
            Arrays.fill(slack, FAR);
            do {
                isSeen[column] = true;
                int next = 0;
                long least = FAR;
                for (int k = 1; k <= n; k++) {
                    if (!isSeen[k]) {
                        boolean isOut = isPieceOut[rowOf[column] - 1] || isOrderOut[k - 1];
                        long cost = isOut ? 0 : -Math.max(0, gains[rowOf[column] - 1][k - 1]);
                        long reduced = cost - rowPrice[rowOf[column]] - columnPrice[k];
                        if (reduced < slack[k]) {
                            slack[k] = reduced;
                            cameFrom[k] = column;
                        }
                        if (slack[k] < least) {
                            least = slack[k];
                            next = k;
                        }
                    }
                }
                for (int k = 0; k <= n; k++) {
                    if (isSeen[k]) {
                        rowPrice[rowOf[k]] += least;
                        columnPrice[k] -= least;
                    } else {
                        slack[k] -= least;
                    }
                }
                column = next;
            } while (rowOf[column] != 0);
            while (column != 0) {
                rowOf[column] = rowOf[cameFrom[column]];
                column = cameFrom[column];
            }
        }
        return columnPrice[0];
    }
}
