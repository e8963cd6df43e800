/** Promise 12: the orders that a piece is used for, by numbers. */
public final class Promise12OrderOfTest {
    public static void main(String[] args) {
        SurplusMatch match = new SurplusMatch();
        match.piece(1, 5, 10, 0);
        match.piece(1, 5, 1, 0);
        for (int k = 0; k < 10; k++) {
            match.order(1, 5, k % 2 == 0 ? 9 : 2, 0);
        }
        Check.is("not used", match.orderOf(0, 0), -1);
        Check.is("five", match.several(0), 5);
        Check.used("by numbers", match, 0, 1, 3, 5, 7, 9);
        Check.is("far", match.orderOf(0, Integer.MAX_VALUE), -1);
        Check.is("of another piece", match.orderOf(1, 0), -1);
        Check.noIndex("i -1", () -> match.orderOf(0, -1));
        Check.noIndex("far below", () -> match.orderOf(0, Integer.MIN_VALUE));
        Check.noIndex("piece -1", () -> match.orderOf(-1, 0));
        Check.noIndex("piece 2", () -> match.orderOf(2, 0));
        match.undo(0);
        Check.is("undone", match.orderOf(0, 0), -1);
        match.run();
        Check.used("one by run", match, 0, 0);
        Check.end();
    }
}
