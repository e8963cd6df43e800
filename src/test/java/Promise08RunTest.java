/** Promise 8: does the best matching: the greatest sum, the most pairs, the first by pieces. */
public final class Promise08RunTest {
    public static void main(String[] args) {
        takesTheGreatestSum();
        takesTheMostPairs();
        takesTheFirstByPieces();
        anOrderIsAheadOfNone();
        sumIsAheadOfPairs();
        countsCutAndAging();
        keepsToReservations();
        leavesOutWhatIsUsed();
        dropsTheReservation();
        Check.end();
    }

    private static void takesTheGreatestSum() {
        SurplusMatch match = Check.alike(2, 2);
        Check.worths(match, new int[][] {{10, 9}, {9, 1}});
        Check.is("pairs", match.run(), 2);
        Check.used("greatest sum", match, 0, 1);
        Check.used("greatest sum", match, 1, 0);
    }

    private static void takesTheMostPairs() {
        SurplusMatch match = new SurplusMatch();
        match.piece(1, 5, 5, 0);
        match.piece(1, 5, 4, 0);
        match.order(1, 5, 4, 0);
        match.order(1, 5, 5, 0);
        match.worth(0, 0, 10);
        match.worth(0, 1, 10);
        Check.is("pairs", match.run(), 2);
        Check.used("most pairs", match, 0, 1);
        Check.used("most pairs", match, 1, 0);
    }

    private static void takesTheFirstByPieces() {
        SurplusMatch match = Check.alike(10, 10);
        Check.is("pairs of no worth", match.run(), 10);
        for (int piece = 0; piece < 10; piece++) {
            Check.used("first by pieces", match, piece, piece);
        }
        SurplusMatch tied = Check.alike(3, 3);
        Check.worths(tied, new int[][] {{1, 2, 3}, {2, 3, 4}, {3, 4, 5}});
        Check.is("pairs", tied.run(), 3);
        for (int piece = 0; piece < 3; piece++) {
            Check.used("all sums are the same", tied, piece, piece);
        }
    }

    private static void anOrderIsAheadOfNone() {
        SurplusMatch match = Check.alike(3, 1);
        Check.worths(match, new int[][] {{4}, {4}, {4}});
        Check.is("one pair", match.run(), 1);
        Check.used("the first piece", match, 0, 0);
        Check.used("no other", match, 1);
        Check.used("no other", match, 2);
    }

    private static void sumIsAheadOfPairs() {
        SurplusMatch match = new SurplusMatch();
        match.piece(1, 5, 5, 0);
        match.piece(1, 5, 4, 0);
        match.order(1, 5, 4, 0);
        match.order(1, 5, 5, 0);
        match.worth(0, 0, 1);
        Check.is("one pair of worth 1 beats two of 0", match.run(), 1);
        Check.used("sum first", match, 0, 0);
        Check.used("sum first", match, 1);
    }

    private static void countsCutAndAging() {
        SurplusMatch match = new SurplusMatch();
        match.order(1, 5, 5, 0);
        match.piece(1, 6, 5, 0);
        match.tick(4);
        match.piece(1, 5, 5, 0);
        match.worth(0, 0, 20);
        match.worth(1, 0, 10);
        match.rules(7, 1, 100);
        match.run();
        Check.used("20 - 7 - 4 is below 10", match, 1, 0);
        Check.used("it gets none", match, 0);
    }

    private static void keepsToReservations() {
        SurplusMatch match = Check.alike(3, 3);
        Check.worths(match, new int[][] {{9, 1, 1}, {1, 9, 1}, {1, 1, 9}});
        match.reserve(0, 2, 5);
        Check.is("pairs", match.run(), 3);
        Check.used("reserved", match, 0, 2);
        Check.used("the others' best", match, 1, 1);
        Check.used("what is left", match, 2, 0);
        SurplusMatch gone = Check.alike(1, 2);
        gone.worth(0, 0, 9);
        gone.reserve(0, 1, 0);
        gone.tick(1);
        gone.run();
        Check.used("a reservation that is gone binds nothing", gone, 0, 0);
    }

    private static void leavesOutWhatIsUsed() {
        SurplusMatch match = Check.alike(2, 3);
        Check.is("first", match.run(), 2);
        Check.is("no piece is left", match.run(), 0);
        match.piece(1, 5, 5, 0);
        match.worth(2, 0, 100);
        Check.is("one more", match.run(), 1);
        Check.used("the order that was left", match, 2, 2);
        Check.used("as before", match, 0, 0);
        Check.used("as before", match, 1, 1);
    }

    private static void dropsTheReservation() {
        SurplusMatch match = Check.alike(1, 1);
        match.reserve(0, 0, 50);
        match.run();
        Check.is("gone as its piece is used", match.reserved(0), -1);
        match.undo(0);
        Check.is("and not back", match.reserved(0), -1);
        match.reserve(0, 0, 50);
        Check.is("its order is free to be reserved", match.reserved(0), 0);
    }
}
