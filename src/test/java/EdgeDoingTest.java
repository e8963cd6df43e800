/** Duals, cutting to several, reservations, undoing, the sale: the sentences that name an edge. */
public final class EdgeDoingTest {
    public static void main(String[] args) {
        Check.sentence("DUALS: of an order the best sum less the best sum without it", EdgeDoingTest::orderDuals);
        Check.sentence("DUALS: of a piece its worth less that order's dual", EdgeDoingTest::pieceDuals);
        Check.sentence("DUALS: as of the latest run(), ahead of its doing", EdgeDoingTest::dualsAsOfTheRun);
        Check.sentence("DUALS: a refused piece or order does not come", EdgeDoingTest::dualsStayWhenRefused);
        Check.sentence("SEVERAL: lengths sum to not above the piece's", EdgeDoingTest::lengthsJustGo);
        Check.sentence("SEVERAL: at most 5", EdgeDoingTest::fiveAtMost);
        Check.sentence("SEVERAL: most orders ahead of the greatest sum", EdgeDoingTest::countAheadOfSum);
        Check.sentence("SEVERAL: of as many the greatest sum, by one cent", EdgeDoingTest::severalByOneCent);
        Check.sentence("SEVERAL: of these the lowest bits", EdgeDoingTest::lowestBits);
        Check.sentence("SEVERAL: neither used nor reserved for another piece", EdgeDoingTest::openOrders);
        Check.sentence("SEVERAL: They are done then", EdgeDoingTest::severalIsDone);
        Check.sentence("A RESERVATION holds up to a day; behind it, it is gone", EdgeDoingTest::holdsToItsDay);
        Check.sentence("A RESERVATION is gone over many days", EdgeDoingTest::goneByALongTick);
        Check.sentence("A RESERVATION holds up to the last day", EdgeDoingTest::holdsToTheLastDay);
        Check.sentence("A RESERVATION is gone when its piece is used", EdgeDoingTest::goneWhenUsed);
        Check.sentence("A RESERVATION that is gone binds neither", EdgeDoingTest::goneBindsNothing);
        Check.sentence("UNDO: it and all its orders are free again", EdgeDoingTest::undoFreesAll);
        Check.sentence("UNDO: of one piece alone", EdgeDoingTest::undoOfOne);
        Check.sentence("UNDO: free, not new: its day and its worths stay", EdgeDoingTest::undoKeepsDayAndWorths);
        Check.sentence("FOR SALE: not used", EdgeDoingTest::saleNotUsed);
        Check.sentence("FOR SALE: not reserved", EdgeDoingTest::saleNotReserved);
        Check.sentence("FOR SALE: came so many days ago or more", EdgeDoingTest::saleByAge);
        Check.sentence("FOR SALE: the oldest first, of the same by numbers", EdgeDoingTest::saleInOrder);
        Check.end();
    }

    private static void orderDuals() {
        SurplusMatch match = Check.alike(2, 3);
        Check.worths(match, new int[][] {{7, 7, 2}, {6, 3, 0}});
        match.run();
        Check.is("sum", match.sum(), 13);
        Check.is("without order 0: 7 and 0", match.dual(1, 0), 13 - 7);
        Check.is("without order 1: 6 and 2", match.dual(1, 1), 13 - 8);
        Check.is("without order 2: the same", match.dual(1, 2), 0);
        SurplusMatch alone = Check.alike(1, 1);
        alone.worth(0, 0, 1_000_000);
        alone.run();
        Check.is("without the only order: none", alone.dual(1, 0), 1_000_000);
        Check.is("the only piece", alone.dual(0, 0), 0);
    }

    private static void pieceDuals() {
        SurplusMatch match = Check.alike(3, 2);
        Check.worths(match, new int[][] {{8, 5}, {1, 5}, {0, 4}});
        match.run();
        Check.is("sum", match.sum(), 13);
        Check.is("order 0", match.dual(1, 0), 13 - 5);
        Check.is("order 1", match.dual(1, 1), 13 - 8);
        Check.is("piece 0", match.dual(0, 0), 0);
        Check.is("piece 1", match.dual(0, 1), 0);
        Check.is("piece 2 gets none", match.dual(0, 2), 0);
        SurplusMatch rare = Check.alike(1, 2);
        Check.worths(rare, new int[][] {{9, 4}});
        rare.run();
        Check.is("the only piece: 9 less 5", rare.dual(0, 0), 4);
        Check.is("its order", rare.dual(1, 0), 5);
        Check.is("the order that gets none", rare.dual(1, 1), 0);
    }

    private static void dualsAsOfTheRun() {
        SurplusMatch match = Check.alike(1, 2);
        Check.worths(match, new int[][] {{9, 4}});
        match.run();
        match.undo(0);
        match.worth(0, 0, 1);
        match.rules(9, 9, 9);
        match.tick(1000);
        match.reserve(0, 1, 2000);
        Check.is("piece", match.dual(0, 0), 4);
        Check.is("order 0", match.dual(1, 0), 5);
        Check.is("order 1", match.dual(1, 1), 0);
        Check.is("sum", match.sum(), 9);
        match.run();
        Check.is("of the next run", match.sum(), 0);
        Check.is("of the next run", match.dual(1, 0), 0);
        match.run();
        Check.is("of a run with nothing left", match.dual(0, 0), 0);
    }

    private static void dualsStayWhenRefused() {
        SurplusMatch match = Scene.full();
        Check.is("ten", match.run(), 10);
        int due = match.dual(1, 9);
        Check.noMeaning("the eleventh piece", () -> match.piece(1, 1, 1, 0));
        Check.noMeaning("the eleventh order", () -> match.order(1, 1, 1, 0));
        Check.noRange("a piece of nothing", () -> match.piece(0, 1, 1, 0));
        Check.noRange("an order of nothing", () -> match.order(1, 1, 1, -1));
        Check.is("run() since the last one came", match.dual(1, 9), due);
        SurplusMatch each = new SurplusMatch();
        each.order(1, 1, 1, 0);
        each.run();
        each.piece(1, 1, 1, 0);
        Check.noTurn("a piece came", () -> each.dual(1, 0));
        each.run();
        Check.is("run() since", each.dual(1, 0), 0);
        each.order(1, 1, 1, 0);
        Check.noTurn("an order came", () -> each.dual(0, 0));
        each.undo(0);
        each.several(0);
        each.tick(1);
        Check.noTurn("still no run", () -> each.dual(0, 0));
    }

    private static void lengthsJustGo() {
        SurplusMatch just = Check.ofLengths(1000, 200, 200, 200, 200, 200);
        Check.is("1,000 of 1,000", just.several(0), 5);
        SurplusMatch above = Check.ofLengths(1000, 200, 200, 200, 200, 201);
        Check.is("1,001 of 1,000", above.several(0), 4);
        Check.used("the four", above, 0, 0, 1, 2, 3);
        SurplusMatch below = Check.ofLengths(999, 200, 200, 200, 200, 200);
        Check.is("1,000 of 999", below.several(0), 4);
        SurplusMatch one = Check.ofLengths(1000, 1000, 1000);
        Check.is("one of its own length", one.several(0), 1);
        Check.used("the lower", one, 0, 0);
        SurplusMatch least = Check.ofLengths(1, 1, 1);
        Check.is("the least piece", least.several(0), 1);
        SurplusMatch whole = Check.ofLengths(7, 3, 4, 5, 2, 7);
        Check.is("3 and 4 are 7", whole.several(0), 2);
        Check.used("3 and 4", whole, 0, 0, 1);
    }

    private static void fiveAtMost() {
        for (int count = 0; count <= 10; count++) {
            SurplusMatch match = Check.ofLengths(1000);
            for (int k = 0; k < count; k++) {
                match.order(1, 5, 1, 0);
            }
            int due = Math.min(count, 5);
            Check.is("of " + count, match.several(0), due);
            for (int i = 0; i < due; i++) {
                Check.is("the lowest", match.orderOf(0, i), i);
            }
            Check.is("no more", match.orderOf(0, due), -1);
        }
        SurplusMatch best = Check.ofLengths(1000, 1, 1, 1, 1, 1, 1, 1, 1, 1, 1);
        for (int order = 0; order < 10; order++) {
            best.worth(0, order, order);
        }
        Check.is("five", best.several(0), 5);
        Check.used("the last five are worth the most", best, 0, 5, 6, 7, 8, 9);
    }

    private static void countAheadOfSum() {
        SurplusMatch match = Check.ofLengths(10, 10, 5, 5);
        match.worth(0, 0, 1_000_000);
        Check.is("two of nothing ahead of one of a million", match.several(0), 2);
        Check.used("two", match, 0, 1, 2);
    }

    private static void severalByOneCent() {
        SurplusMatch match = Check.ofLengths(10, 5, 5, 5);
        match.worth(0, 0, 1_000_000);
        match.worth(0, 1, 999_999);
        match.worth(0, 2, 1_000_000);
        Check.is("two", match.several(0), 2);
        Check.used("by one cent", match, 0, 0, 2);
        SurplusMatch cut = Check.ofLengths(10, 10, 9);
        cut.worth(0, 0, 5);
        cut.worth(0, 1, 6);
        cut.rules(2, 0, 100);
        Check.is("one", cut.several(0), 1);
        Check.used("6 less 2 is below 5", cut, 0, 0);
    }

    private static void lowestBits() {
        SurplusMatch match = Check.ofLengths(10, 5, 5, 5, 5);
        Check.is("two", match.several(0), 2);
        Check.used("bits 0011", match, 0, 0, 1);
        SurplusMatch crossed = Check.ofLengths(10, 8, 5, 5, 2);
        Check.is("two", crossed.several(0), 2);
        Check.used("bits 0110 ahead of 1001", crossed, 0, 1, 2);
        SurplusMatch worths = Check.ofLengths(10, 5, 5, 5, 5);
        worths.worth(0, 1, 3);
        worths.worth(0, 2, 3);
        worths.worth(0, 3, 3);
        Check.is("two", worths.several(0), 2);
        Check.used("bits 0110 of the same sum", worths, 0, 1, 2);
    }

    private static void openOrders() {
        SurplusMatch match = Check.ofLengths(4, 1, 1, 1, 1);
        match.piece(1, 5, 1, 0);
        match.piece(1, 5, 1, 0);
        match.reserve(1, 0, 0);
        match.several(2);
        Check.used("order 1 is used", match, 2, 1);
        Check.is("the two others", match.several(0), 2);
        Check.used("the two others", match, 0, 2, 3);
        match.undo(0);
        match.undo(2);
        Check.is("one is reserved still", match.several(0), 3);
        match.undo(0);
        match.tick(1);
        Check.is("none is reserved", match.several(0), 4);
    }

    private static void severalIsDone() {
        SurplusMatch match = Check.ofLengths(4, 2, 2, 2);
        match.piece(1, 5, 4, 0);
        match.rules(0, 0, 0);
        Check.is("two", match.several(0), 2);
        Check.noTurn("once", () -> match.several(0));
        Check.noTurn("the piece is not to be reserved", () -> match.reserve(0, 2, 0));
        Check.noTurn("its first order neither", () -> match.reserve(1, 0, 0));
        Check.noTurn("its last order neither", () -> match.reserve(1, 1, 0));
        Check.is("not for sale", match.sale(0), 1);
        Check.is("what is left", match.run(), 1);
        Check.used("what is left", match, 1, 2);
        Check.used("as it was", match, 0, 0, 1);
    }

    private static void holdsToItsDay() {
        for (int days = 0; days < 4; days++) {
            SurplusMatch match = Check.alike(1, 1);
            match.tick(5);
            match.reserve(0, 0, 5 + days);
            for (int k = 0; k < days; k++) {
                match.tick(1);
            }
            Check.is("on its day", match.reserved(0), 0);
            Check.noTurn("on its day, several", () -> match.several(0));
            match.tick(1);
            Check.is("behind it", match.reserved(0), -1);
            Check.is("behind it, several", match.several(0), 1);
        }
    }

    private static void goneByALongTick() {
        SurplusMatch match = Check.alike(3, 3);
        match.reserve(0, 0, 999);
        match.reserve(1, 1, 1000);
        match.reserve(2, 2, 1001);
        match.tick(1000);
        Check.is("the day ahead", match.reserved(0), -1);
        Check.is("the very day", match.reserved(1), 1);
        Check.is("the day behind", match.reserved(2), 2);
        match.tick(1000);
        Check.is("gone", match.reserved(1), -1);
        Check.is("gone", match.reserved(2), -1);
    }

    private static void holdsToTheLastDay() {
        SurplusMatch match = Check.alike(2, 2);
        match.reserve(0, 0, 9999);
        match.reserve(1, 1, 9998);
        Scene.goTo(match, 0, 9999);
        Check.is("to day 9,999", match.reserved(0), 0);
        Check.is("to day 9,998", match.reserved(1), -1);
        Check.noRange("no day behind it", () -> match.tick(1));
        Check.is("it holds on", match.reserved(0), 0);
        Check.noRange("day 9,998 is past", () -> match.reserve(1, 1, 9998));
        match.reserve(1, 1, 9999);
        Check.is("reserved on the last day", match.reserved(1), 1);
    }

    private static void goneWhenUsed() {
        SurplusMatch match = Check.alike(2, 2);
        match.reserve(0, 1, 100);
        match.run();
        Check.used("used for its order", match, 0, 1);
        Check.is("gone", match.reserved(0), -1);
        match.undo(0);
        Check.is("not back", match.reserved(0), -1);
        Check.is("the piece is free", match.several(0), 1);
        Check.used("its order too", match, 0, 1);
        match.undo(0);
        match.undo(1);
        match.reserve(1, 1, 100);
        Check.is("the order is free for another piece", match.reserved(1), 1);
    }

    private static void goneBindsNothing() {
        SurplusMatch match = Check.alike(2, 2);
        Check.worths(match, new int[][] {{9, 1}, {1, 9}});
        match.rules(0, 0, 0);
        match.reserve(0, 1, 0);
        match.reserve(1, 0, 0);
        Check.is("none for sale", match.sale(0), -1);
        match.tick(1);
        Check.is("for sale", match.sale(0), 0);
        Check.is("for sale", match.sale(1), 1);
        match.reserve(0, 0, 1);
        Check.is("another order", match.reserved(0), 0);
        match.tick(1);
        Check.is("two", match.run(), 2);
        Check.is("the best of all", match.sum(), 18);
    }

    private static void undoFreesAll() {
        SurplusMatch match = Check.ofLengths(5, 1, 1, 1, 1, 1);
        match.piece(1, 5, 5, 0);
        match.rules(0, 0, 0);
        Check.is("five", match.several(0), 5);
        Check.is("none left", match.several(1), 0);
        match.undo(0);
        Check.used("not used", match, 0);
        Check.is("for sale", match.sale(0), 0);
        Check.is("all five", match.several(1), 5);
        Check.used("by the other", match, 1, 0, 1, 2, 3, 4);
        Check.is("none left", match.several(0), 0);
        Check.noTurn("the other is not used", () -> match.undo(0));
    }

    private static void undoOfOne() {
        SurplusMatch match = Scene.full();
        Check.is("ten", match.run(), 10);
        match.undo(4);
        for (int piece = 0; piece < 10; piece++) {
            Check.is("piece " + piece, match.orderOf(piece, 0) >= 0, piece != 4);
        }
        int sum = match.sum();
        Check.is("one again", match.run(), 1);
        Check.is("the sum of that one", match.sum(), 44);
        Check.is("ahead of it", sum, 450 + 45);
    }

    private static void undoKeepsDayAndWorths() {
        SurplusMatch match = Check.alike(1, 1);
        match.worth(0, 0, 100);
        match.rules(0, 1, 10);
        match.tick(4);
        match.run();
        match.tick(5);
        match.undo(0);
        Check.is("nine days old", match.net(0, 0), 91);
        Check.is("not ten yet", match.sale(0), -1);
        match.tick(1);
        Check.is("ten days old", match.sale(0), 0);
        Check.is("one again", match.run(), 1);
        Check.is("its worth today", match.sum(), 90);
        match.tick(1);
        Check.is("a used piece ages too", match.net(0, 0), 89);
    }

    private static void saleNotUsed() {
        SurplusMatch match = Check.alike(3, 1);
        match.rules(0, 0, 0);
        match.several(1);
        Check.forSale("several", match, 0, 2);
        match.undo(1);
        Check.forSale("undo", match, 0, 1, 2);
        match.run();
        Check.forSale("run", match, 1, 2);
    }

    private static void saleNotReserved() {
        SurplusMatch match = Check.alike(3, 1);
        match.rules(0, 0, 0);
        match.reserve(1, 0, 1);
        Check.forSale("reserved", match, 0, 2);
        match.tick(1);
        Check.forSale("on its day", match, 0, 2);
        match.tick(1);
        Check.forSale("behind it", match, 0, 1, 2);
    }

    private static void saleByAge() {
        SurplusMatch match = new SurplusMatch();
        match.piece(1, 1, 1, 0);
        match.tick(1);
        match.piece(1, 1, 1, 0);
        match.tick(1);
        match.piece(1, 1, 1, 0);
        int[][] due = {{0, 1, 2}, {0, 1}, {0}, {}};
        for (int age = 0; age <= 3; age++) {
            match.rules(0, 0, age);
            Check.forSale("from " + age + " days on", match, due[age]);
        }
        match.rules(0, 0, 9999);
        Check.forSale("from 9,999 days on", match);
    }

    private static void saleInOrder() {
        SurplusMatch match = new SurplusMatch();
        match.rules(0, 0, 0);
        for (int k = 0; k < 10; k++) {
            match.piece(1, 1, 10 - k, 0);
            if (k % 3 == 2) {
                match.tick(1);
            }
        }
        Check.forSale("all ten", match, 0, 1, 2, 3, 4, 5, 6, 7, 8, 9);
        match.order(1, 1, 1, 0);
        match.worth(4, 0, 1);
        match.run();
        Check.forSale("without the used one", match, 0, 1, 2, 3, 5, 6, 7, 8, 9);
        match.undo(4);
        Check.forSale("back in its place", match, 0, 1, 2, 3, 4, 5, 6, 7, 8, 9);
    }
}
