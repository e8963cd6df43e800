/** The full object, ten pieces and ten orders: every call on it, and the best held against the Hungarian method. */
public final class EdgeFullTest {
    private static final int N = 10;
    private static final int ROUNDS = 300;
    private static final long CENT = 100;
    private static long seed = 2026;

    public static void main(String[] args) {
        Check.sentence("at most 10 pieces, at most 10 orders: run", EdgeFullTest::runsFull);
        Check.sentence("worths of 1,000,000 each: the greatest sum", EdgeFullTest::greatestWorths);
        Check.sentence("full: one by one by several", EdgeFullTest::severalOneByOne);
        Check.sentence("full: five and five by several", EdgeFullTest::severalFive);
        Check.sentence("full: all reserved", EdgeFullTest::allReserved);
        Check.sentence("full: all undone", EdgeFullTest::allUndone);
        Check.sentence("full: all for sale", EdgeFullTest::allForSale);
        Check.sentence("full: only the last piece fits only the last order", EdgeFullTest::lastPair);
        Check.sentence("full: THE BEST and its DUALS, another way", EdgeFullTest::anotherWay);
        Check.end();
    }

    private static void runsFull() {
        SurplusMatch match = Scene.full();
        Check.is("ten pairs", match.run(), N);
        Check.is("sum", match.sum(), 450 + 45);
        for (int k = 0; k < N; k++) {
            Check.used("all sums are the same: the first by pieces", match, k, k);
            Check.is("dual of order " + k, match.dual(1, k), k);
            Check.is("dual of piece " + k, match.dual(0, k), 10 * k);
        }
        Check.is("none left", match.run(), 0);
    }

    private static void greatestWorths() {
        SurplusMatch match = Check.alike(N, N);
        for (int piece = 0; piece < N; piece++) {
            for (int order = 0; order < N; order++) {
                match.worth(piece, order, 1_000_000);
            }
        }
        Check.is("ten pairs", match.run(), N);
        Check.is("ten million", match.sum(), 10_000_000);
        for (int k = 0; k < N; k++) {
            Check.used("the first by pieces", match, k, k);
            Check.is("dual of an order", match.dual(1, k), 1_000_000);
            Check.is("dual of a piece", match.dual(0, k), 0);
        }
    }

    private static void severalOneByOne() {
        SurplusMatch match = Check.alike(N, N);
        for (int piece = N - 1; piece >= 0; piece--) {
            Check.is("one", match.several(piece), 1);
            Check.used("the lowest that is left", match, piece, N - 1 - piece);
        }
        Check.is("none left", match.run(), 0);
    }

    private static void severalFive() {
        SurplusMatch match = new SurplusMatch();
        for (int k = 0; k < N; k++) {
            match.piece(1000, 1000, 1000, 7);
            match.order(1000, 1000, 200, 7);
        }
        Check.is("five", match.several(9), 5);
        Check.used("the lowest", match, 9, 0, 1, 2, 3, 4);
        Check.is("five", match.several(0), 5);
        Check.used("the others", match, 0, 5, 6, 7, 8, 9);
        Check.is("none left", match.several(5), 0);
        Check.is("none left", match.run(), 0);
        match.undo(9);
        Check.is("five pairs", match.run(), 5);
        for (int piece = 1; piece <= 5; piece++) {
            Check.used("the first by pieces", match, piece, piece - 1);
        }
        Check.used("no order is left", match, 9);
    }

    private static void allReserved() {
        SurplusMatch match = Scene.full();
        for (int piece = 0; piece < N; piece++) {
            match.reserve(piece, (piece + 3) % N, 9999);
        }
        for (int piece = 0; piece < N; piece++) {
            int p = piece;
            Check.is("reserved", match.reserved(p), (p + 3) % N);
            Check.noTurn("several", () -> match.several(p));
            Check.noTurn("reserve", () -> match.reserve(p, p, 9999));
        }
        match.rules(0, 0, 0);
        Check.is("none for sale", match.sale(0), -1);
        Check.is("ten pairs", match.run(), N);
        for (int piece = 0; piece < N; piece++) {
            Check.used("its own order", match, piece, (piece + 3) % N);
            Check.is("no more reserved", match.reserved(piece), -1);
            Check.is("without its order the piece has none", match.dual(0, piece), 0);
            Check.is("the order has it all", match.dual(1, (piece + 3) % N), 10 * piece + (piece + 3) % N);
        }
    }

    private static void allUndone() {
        SurplusMatch match = Scene.full();
        match.run();
        for (int piece = 0; piece < N; piece++) {
            match.undo(piece);
        }
        for (int piece = 0; piece < N; piece++) {
            int p = piece;
            Check.used("free", match, p);
            Check.noTurn("undone", () -> match.undo(p));
        }
        Check.is("sum as of the run", match.sum(), 495);
        Check.is("ten again", match.run(), N);
        Check.is("sum again", match.sum(), 495);
    }

    private static void allForSale() {
        SurplusMatch match = Scene.full();
        match.tick(99);
        Check.is("99 days", match.sale(0), -1);
        match.tick(1);
        for (int i = 0; i < N; i++) {
            Check.is("place " + i, match.sale(i), i);
        }
        Check.is("place 10", match.sale(N), -1);
        match.run();
        Check.is("all used", match.sale(0), -1);
    }

    private static void lastPair() {
        SurplusMatch match = new SurplusMatch();
        for (int k = 0; k < N; k++) {
            match.piece(k == 9 ? 1000 : 1, 1, 1, 0);
            match.order(k == 9 ? 1000 : 2, 1, 1, 0);
        }
        match.worth(9, 9, 1_000_000);
        Check.is("one pair", match.run(), 1);
        Check.is("sum", match.sum(), 1_000_000);
        Check.used("the last ones", match, 9, 9);
        Check.is("dual of order 9", match.dual(1, 9), 1_000_000);
        Check.is("dual of order 8", match.dual(1, 8), 0);
    }

    private static void anotherWay() {
        for (int round = 0; round < ROUNDS; round++) {
            againstHungarian(round);
        }
    }

    private static void againstHungarian(int round) {
        SurplusMatch match = new SurplusMatch();
        long[][] gains = filled(match, round);
        boolean[] noPieces = new boolean[N];
        long best = Hungarian.greatest(gains, noPieces, new boolean[N]);
        String what = "round " + round;
        Check.is(what + ": pairs", match.run(), best % CENT);
        Check.is(what + ": sum", match.sum(), best / CENT);
        long[] orderDuals = new long[N];
        for (int order = 0; order < N; order++) {
            boolean[] without = new boolean[N];
            without[order] = true;
            orderDuals[order] = best / CENT - Hungarian.greatest(gains, noPieces, without) / CENT;
            Check.is(what + ": dual of order " + order, match.dual(1, order), orderDuals[order]);
        }
        int[] chosen = firstByPieces(gains, best);
        for (int piece = 0; piece < N; piece++) {
            int order = chosen[piece];
            Check.is(what + ": order of piece " + piece, match.orderOf(piece, 0), order);
            long due = order < 0 ? 0 : gains[piece][order] / CENT - orderDuals[order];
            Check.is(what + ": dual of piece " + piece, match.dual(0, piece), due);
        }
    }

    private static int[] firstByPieces(long[][] gains, long best) {
        boolean[] isPieceOut = new boolean[N];
        boolean[] isOrderOut = new boolean[N];
        int[] chosen = new int[N];
        long left = best;
        for (int piece = 0; piece < N; piece++) {
            chosen[piece] = -1;
            isPieceOut[piece] = true;
            for (int order = 0; order < N && chosen[piece] < 0; order++) {
                if (gains[piece][order] > 0 && !isOrderOut[order]) {
                    isOrderOut[order] = true;
                    if (gains[piece][order] + Hungarian.greatest(gains, isPieceOut, isOrderOut) == left) {
                        chosen[piece] = order;
                        left -= gains[piece][order];
                    } else {
                        isOrderOut[order] = false;
                    }
                }
            }
        }
        return chosen;
    }

    /** Fills the object; answers for each pair that may be its worth times CENT, and 1; 0 for the others. */
    private static long[][] filled(SurplusMatch match, int round) {
        int sizes = 1 + round % 5;
        for (int k = 0; k < N; k++) {
            match.piece(1, 1 + next(sizes) + next(2), 1 + next(sizes) + next(2), next(8) / 7);
            match.order(1, 1 + next(sizes), 1 + next(sizes), 0);
        }
        int most = new int[] {1, 2, 4, 50, 1_000_001}[next(5)];
        boolean[][] may = new boolean[N][N];
        for (int piece = 0; piece < N; piece++) {
            for (int order = 0; order < N; order++) {
                may[piece][order] = match.fits(piece, order);
                if (may[piece][order]) {
                    match.worth(piece, order, next(most));
                }
            }
        }
        match.rules(next(3), next(2), 100);
        match.tick(1 + next(3));
        for (int k = 0; k < round % 4; k++) {
            int piece = next(N);
            int order = next(N);
            if (may[piece][order] && match.reserved(piece) < 0) {
                match.reserve(piece, order, 9999);
                leaveNoOther(may, piece, order);
            }
        }
        long[][] gains = new long[N][N];
        for (int piece = 0; piece < N; piece++) {
            for (int order = 0; order < N; order++) {
                gains[piece][order] = may[piece][order] ? CENT * match.net(piece, order) + 1 : 0;
            }
        }
        return gains;
    }

    private static void leaveNoOther(boolean[][] may, int piece, int order) {
        for (int k = 0; k < N; k++) {
            may[piece][k] = k == order;
            may[k][order] = k == piece;
        }
        may[piece][order] = true;
    }

    private static int next(int bound) {
        seed = seed * 6364136223846793005L + 1442695040888963407L;
        return (int) ((seed >>> 33) % bound);
    }
}
