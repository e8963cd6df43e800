/** Promise 11: the most orders along a piece's length, of the greatest sum, of the lowest bits. */
public final class Promise11SeveralTest {
    public static void main(String[] args) {
        takesTheMostOrders();
        takesTheGreatestSum();
        takesTheLowestBits();
        takesFiveAtMost();
        takesWhatItFits();
        countsTheWorthsOfToday();
        leavesOutUsedAndReserved();
        none();
        refuses();
        Check.end();
    }

    private static void takesTheMostOrders() {
        SurplusMatch match = Check.ofLengths(10, 10, 4, 6);
        match.worth(0, 0, 1000);
        Check.is("two, just its length", match.several(0), 2);
        Check.used("most", match, 0, 1, 2);
        SurplusMatch longer = Check.ofLengths(10, 10, 4, 7);
        longer.worth(0, 0, 1000);
        Check.is("one: 4 and 7 are too long", longer.several(0), 1);
        Check.used("one", longer, 0, 0);
    }

    private static void takesTheGreatestSum() {
        SurplusMatch match = Check.ofLengths(10, 5, 5, 5, 5);
        match.worth(0, 0, 1);
        match.worth(0, 1, 7);
        match.worth(0, 3, 2);
        Check.is("two", match.several(0), 2);
        Check.used("greatest", match, 0, 1, 3);
        SurplusMatch crossed = Check.ofLengths(10, 7, 5, 5, 3);
        crossed.worth(0, 0, 1);
        Check.is("two", crossed.several(0), 2);
        Check.used("the sum is ahead of the bits", crossed, 0, 0, 3);
    }

    private static void takesTheLowestBits() {
        SurplusMatch match = Check.ofLengths(10, 5, 5, 5);
        Check.is("two", match.several(0), 2);
        Check.used("0 and 1", match, 0, 0, 1);
        SurplusMatch crossed = Check.ofLengths(10, 7, 5, 5, 3);
        Check.is("two", crossed.several(0), 2);
        Check.used("bits 0110 are lower than 1001", crossed, 0, 1, 2);
    }

    private static void takesFiveAtMost() {
        SurplusMatch match = Check.ofLengths(1000, 1, 1, 1, 1, 1, 1, 1);
        match.worth(0, 6, 3);
        Check.is("five", match.several(0), 5);
        Check.used("five", match, 0, 0, 1, 2, 3, 6);
        SurplusMatch five = Check.ofLengths(5, 1, 1, 1, 1, 1);
        Check.is("just five", five.several(0), 5);
        Check.used("just five", five, 0, 0, 1, 2, 3, 4);
    }

    private static void takesWhatItFits() {
        SurplusMatch match = new SurplusMatch();
        match.piece(2, 5, 9, 1);
        match.order(1, 5, 1, 1);
        match.order(2, 6, 1, 1);
        match.order(2, 5, 1, 0);
        match.order(2, 1, 1, 1);
        match.order(2, 5, 10, 1);
        Check.is("one", match.several(0), 1);
        Check.used("the one that it fits", match, 0, 3);
    }

    private static void countsTheWorthsOfToday() {
        SurplusMatch match = new SurplusMatch();
        match.piece(1, 5, 10, 0);
        match.order(1, 4, 10, 0);
        match.order(1, 5, 10, 0);
        match.worth(0, 0, 12);
        match.worth(0, 1, 10);
        match.rules(3, 0, 100);
        Check.is("one", match.several(0), 1);
        Check.used("12 less 3 is below 10", match, 0, 1);
        match.undo(0);
        match.rules(3, 1, 100);
        match.tick(100);
        Check.is("one", match.several(0), 1);
        Check.used("both are worth 0", match, 0, 0);
    }

    private static void leavesOutUsedAndReserved() {
        SurplusMatch match = Check.ofLengths(10, 3, 3, 3);
        match.piece(1, 5, 10, 0);
        match.piece(1, 5, 3, 0);
        match.reserve(1, 0, 4);
        Check.is("order 1", match.several(2), 1);
        Check.used("not the reserved one", match, 2, 1);
        Check.is("order 2", match.several(0), 1);
        Check.used("neither used nor reserved", match, 0, 2);
        Check.is("the reservation holds", match.reserved(1), 0);
        match.undo(0);
        match.undo(2);
        match.tick(5);
        Check.is("all again", match.several(0), 3);
        Check.used("the reservation is gone", match, 0, 0, 1, 2);
        Check.is("nothing is left", match.several(1), 0);
    }

    private static void none() {
        SurplusMatch match = Check.ofLengths(5, 6);
        Check.is("none", match.several(0), 0);
        Check.is("none again: nothing was done", match.several(0), 0);
        Check.used("none", match, 0);
        Check.noTurn("not used", () -> match.undo(0));
    }

    private static void refuses() {
        SurplusMatch match = Check.alike(2, 2);
        Check.noIndex("-1", () -> match.several(-1));
        Check.noIndex("2", () -> match.several(2));
        match.several(0);
        Check.noTurn("used", () -> match.several(0));
        match.reserve(1, 1, 0);
        Check.noTurn("reserved", () -> match.several(1));
        match.tick(1);
        Check.is("no more reserved", match.several(1), 1);
        Check.noTurn("used by several", () -> match.several(1));
        match.undo(1);
        match.run();
        Check.noTurn("used by run", () -> match.several(1));
    }
}
