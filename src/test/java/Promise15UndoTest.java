/** Promise 15: a piece and all its orders are free again. */
public final class Promise15UndoTest {
    public static void main(String[] args) {
        afterRun();
        afterSeveral();
        refuses();
        Check.end();
    }

    private static void afterRun() {
        SurplusMatch match = Check.alike(2, 2);
        match.run();
        match.undo(0);
        Check.used("free", match, 0);
        Check.used("as before", match, 1, 1);
        match.reserve(0, 0, 0);
        Check.is("its order is free", match.reserved(0), 0);
        Check.is("one again", match.run(), 1);
        Check.used("again", match, 0, 0);
    }

    private static void afterSeveral() {
        SurplusMatch match = new SurplusMatch();
        match.piece(1, 5, 10, 0);
        match.piece(1, 5, 10, 0);
        match.order(1, 5, 3, 0);
        match.order(1, 5, 3, 0);
        match.order(1, 5, 3, 0);
        match.order(1, 5, 9, 0);
        match.rules(0, 0, 0);
        Check.is("three", match.several(0), 3);
        Check.is("one", match.several(1), 1);
        Check.is("none for sale", match.sale(0), -1);
        match.undo(0);
        Check.is("for sale again", match.sale(0), 0);
        Check.used("free", match, 0);
        Check.used("as before", match, 1, 3);
        match.undo(1);
        Check.is("all its orders are free", match.several(1), 3);
        Check.used("by the other piece", match, 1, 0, 1, 2);
    }

    private static void refuses() {
        SurplusMatch match = Check.alike(2, 2);
        Check.noIndex("-1", () -> match.undo(-1));
        Check.noIndex("2", () -> match.undo(2));
        Check.noTurn("not used", () -> match.undo(0));
        match.reserve(0, 0, 5);
        Check.noTurn("reserved alone", () -> match.undo(0));
        Check.is("the reservation holds", match.reserved(0), 0);
        match.run();
        match.undo(0);
        Check.noTurn("undone", () -> match.undo(0));
        Check.is("the reservation is not back", match.reserved(0), -1);
    }
}
