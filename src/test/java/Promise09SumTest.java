/** Promise 9: the sum of worths of the latest run. */
public final class Promise09SumTest {
    public static void main(String[] args) {
        SurplusMatch match = Check.alike(2, 2);
        Check.worths(match, new int[][] {{10, 9}, {9, 1}});
        Check.is("ahead of a run", match.sum(), 0);
        match.several(0);
        Check.is("several is no run", match.sum(), 0);
        match.undo(0);
        match.run();
        Check.is("greatest", match.sum(), 18);
        match.rules(0, 1, 0);
        match.tick(3);
        match.undo(0);
        match.worth(0, 1, 500);
        match.piece(1, 1, 1, 0);
        Check.is("as of the run", match.sum(), 18);
        match.run();
        Check.is("of the latest run alone, less aging", match.sum(), 497);
        match.run();
        Check.is("of a run without pairs", match.sum(), 0);
        greatestOfAll();
        Check.end();
    }

    private static void greatestOfAll() {
        SurplusMatch match = Check.alike(10, 10);
        for (int piece = 0; piece < 10; piece++) {
            match.worth(piece, 9 - piece, 1_000_000);
        }
        Check.is("pairs", match.run(), 10);
        Check.is("ten million", match.sum(), 10_000_000);
        for (int piece = 0; piece < 10; piece++) {
            Check.used("crosswise", match, piece, 9 - piece);
        }
    }
}
