/** Promise 10: the duals of the latest run, and that they prove it. */
public final class Promise10DualTest {
    private static long seed = 12345;

    public static void main(String[] args) {
        areTold();
        ofReservedOnes();
        areOfTheLatestRun();
        refuses();
        for (int k = 0; k < 60; k++) {
            prove(k);
        }
        Check.end();
    }

    private static void areTold() {
        SurplusMatch match = Check.alike(3, 2);
        Check.worths(match, new int[][] {{10, 9}, {9, 1}, {0, 4}});
        match.run();
        Check.is("sum", match.sum(), 18);
        Check.is("order 0: without it piece 0 takes order 1", match.dual(1, 0), 18 - 9);
        Check.is("order 1: without it piece 0 takes order 0", match.dual(1, 1), 18 - 10);
        Check.is("piece 0 for order 1", match.dual(0, 0), 9 - 8);
        Check.is("piece 1 for order 0", match.dual(0, 1), 9 - 9);
        Check.is("piece 2 gets none", match.dual(0, 2), 0);
    }

    private static void ofReservedOnes() {
        SurplusMatch match = Check.alike(2, 2);
        Check.worths(match, new int[][] {{10, 9}, {9, 1}});
        match.reserve(0, 0, 9);
        match.run();
        Check.is("sum", match.sum(), 11);
        Check.is("without order 0 its piece takes no other", match.dual(1, 0), 10);
        Check.is("order 1", match.dual(1, 1), 1);
        Check.is("piece 0", match.dual(0, 0), 0);
        Check.is("piece 1", match.dual(0, 1), 0);
    }

    private static void areOfTheLatestRun() {
        SurplusMatch match = Check.alike(1, 2);
        Check.worths(match, new int[][] {{5, 8}});
        match.run();
        Check.is("piece", match.dual(0, 0), 5);
        Check.is("order 0", match.dual(1, 0), 0);
        Check.is("order 1", match.dual(1, 1), 3);
        match.undo(0);
        match.worth(0, 1, 0);
        match.tick(5);
        match.rules(3, 3, 3);
        Check.is("piece as of the run", match.dual(0, 0), 5);
        Check.is("order 1 as of the run", match.dual(1, 1), 3);
        match.several(0);
        Check.is("piece as of the run", match.dual(0, 0), 5);
        match.run();
        Check.is("used: no part", match.dual(0, 0), 0);
        Check.is("used: no part", match.dual(1, 0), 0);
        Check.is("no piece is left", match.dual(1, 1), 0);
    }

    private static void refuses() {
        SurplusMatch match = Check.alike(1, 2);
        Check.noTurn("no run yet", () -> match.dual(0, 0));
        Check.noTurn("no run yet", () -> match.dual(1, 1));
        Check.noIndex("index ahead of turn", () -> match.dual(0, 1));
        match.run();
        Check.noIndex("side -1", () -> match.dual(-1, 0));
        Check.noIndex("side 2", () -> match.dual(2, 0));
        Check.noIndex("piece -1", () -> match.dual(0, -1));
        Check.noIndex("piece 1", () -> match.dual(0, 1));
        Check.noIndex("order 2", () -> match.dual(1, 2));
        Check.noIndex("far order", () -> match.dual(1, Integer.MAX_VALUE));
        Check.noRange("refused piece", () -> match.piece(0, 0, 0, 0));
        Check.noRange("refused order", () -> match.order(0, 0, 0, 0));
        Check.is("none came", match.dual(0, 0), 0);
        match.piece(1, 1, 1, 0);
        Check.noTurn("a piece came", () -> match.dual(1, 0));
        match.run();
        Check.is("run since", match.dual(0, 1), 0);
        match.order(1, 1, 1, 0);
        Check.noTurn("an order came", () -> match.dual(0, 0));
        match.run();
        Check.is("run since", match.dual(1, 2), 0);
    }

    /** Ten by ten: the duals reach every pair that may be, and sum to the best sum. */
    private static void prove(int round) {
        SurplusMatch match = new SurplusMatch();
        for (int k = 0; k < 10; k++) {
            match.piece(1, 1 + next(6), 1 + next(6), 0);
            match.order(1, 1 + next(4), 1 + next(4), 0);
        }
        int most = round % 3 == 0 ? 3 : round % 3 == 1 ? 100 : 1_000_001;
        boolean[][] may = new boolean[10][10];
        int[][] worth = new int[10][10];
        for (int piece = 0; piece < 10; piece++) {
            for (int order = 0; order < 10; order++) {
                may[piece][order] = match.fits(piece, order);
                if (may[piece][order]) {
                    match.worth(piece, order, next(most));
                }
            }
        }
        match.rules(next(3), next(2), 100);
        match.tick(1 + next(3));
        for (int piece = 0; piece < 10; piece++) {
            for (int order = 0; order < 10; order++) {
                worth[piece][order] = may[piece][order] ? match.net(piece, order) : 0;
            }
        }
        int pairs = match.run();
        int sum = 0;
        int count = 0;
        long all = 0;
        int[] ofPiece = new int[10];
        int[] ofOrder = new int[10];
        for (int k = 0; k < 10; k++) {
            ofPiece[k] = match.dual(0, k);
            ofOrder[k] = match.dual(1, k);
        }
        for (int piece = 0; piece < 10; piece++) {
            int order = match.orderOf(piece, 0);
            all += ofPiece[piece] + ofOrder[piece];
            if (order >= 0) {
                count++;
                sum += worth[piece][order];
                Check.is("it may be", may[piece][order], true);
                Check.is("tight", ofPiece[piece] + ofOrder[order], worth[piece][order]);
            }
            for (int k = 0; k < 10; k++) {
                if (may[piece][k]) {
                    Check.is("reached", ofPiece[piece] + ofOrder[k] >= worth[piece][k], true);
                }
            }
        }
        Check.is("pairs", pairs, count);
        Check.is("sum", match.sum(), sum);
        Check.is("all duals", all, sum);
    }

    private static int next(int bound) {
        seed = seed * 6364136223846793005L + 1442695040888963407L;
        return (int) ((seed >>> 33) % bound);
    }
}
