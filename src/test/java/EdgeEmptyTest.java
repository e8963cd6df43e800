/** The empty object, pieces without orders, orders without pieces: what calls answer where there is nothing. */
public final class EdgeEmptyTest {
    private static final int[] NUMBERS = {0, 1, 9, 10, -1, Integer.MIN_VALUE, Integer.MAX_VALUE};

    public static void main(String[] args) {
        Check.sentence("No pieces, no orders: every number is refused", EdgeEmptyTest::noNumbers);
        Check.sentence("No pieces, no orders: what is answered", EdgeEmptyTest::nothing);
        Check.sentence("No pieces: orders alone", EdgeEmptyTest::ordersAlone);
        Check.sentence("no orders: pieces alone", EdgeEmptyTest::piecesAlone);
        Check.sentence("run: of those that fit: none fits", EdgeEmptyTest::noneFits);
        Check.sentence("run: a piece that is used takes no part: none is left", EdgeEmptyTest::noneLeft);
        Check.sentence("sum: 0 ahead of it", EdgeEmptyTest::sumAhead);
        Check.sentence("several: 0: none; nothing is done then", EdgeEmptyTest::severalNone);
        Check.sentence("orderOf: -1 when there are not so many", EdgeEmptyTest::orderOfNone);
        Check.sentence("reserved: -1 for none", EdgeEmptyTest::reservedNone);
        Check.sentence("sale: -1 when there are not so many", EdgeEmptyTest::saleNone);
        Check.sentence("dual: those that took no part have 0", EdgeEmptyTest::dualNone);
        Check.end();
    }

    private static void noNumbers() {
        SurplusMatch match = new SurplusMatch();
        for (int k : NUMBERS) {
            Check.noIndex("fits", () -> match.fits(k, k));
            Check.noIndex("net", () -> match.net(k, k));
            Check.noIndex("worth", () -> match.worth(k, k, 0));
            Check.noIndex("worth, its range wrong too", () -> match.worth(k, k, -1));
            Check.noIndex("dual of a piece", () -> match.dual(0, k));
            Check.noIndex("dual of an order", () -> match.dual(1, k));
            Check.noIndex("several", () -> match.several(k));
            Check.noIndex("orderOf", () -> match.orderOf(k, 0));
            Check.noIndex("reserve", () -> match.reserve(k, k, 0));
            Check.noIndex("reserve, its range wrong too", () -> match.reserve(k, k, -1));
            Check.noIndex("reserved", () -> match.reserved(k));
            Check.noIndex("undo", () -> match.undo(k));
        }
        match.run();
        Check.noIndex("dual of a piece behind a run", () -> match.dual(0, 0));
        Check.noIndex("dual of an order behind a run", () -> match.dual(1, 0));
    }

    private static void nothing() {
        SurplusMatch match = new SurplusMatch();
        Check.is("sum", match.sum(), 0);
        Check.is("run", match.run(), 0);
        Check.is("sum of it", match.sum(), 0);
        Check.is("sale", match.sale(0), -1);
        match.rules(0, 0, 0);
        Check.is("sale from 0 days on", match.sale(0), -1);
        Check.is("tick", match.tick(1), 1);
        Check.is("the first piece", match.piece(1, 1, 1, 0), 0);
        Check.is("the first order", match.order(1, 1, 1, 0), 0);
    }

    private static void ordersAlone() {
        SurplusMatch match = Check.alike(0, 10);
        Check.noIndex("fits", () -> match.fits(0, 0));
        Check.noIndex("reserve", () -> match.reserve(0, 0, 0));
        Check.noTurn("dual ahead of a run", () -> match.dual(1, 9));
        Check.noIndex("dual of a piece ahead of a run", () -> match.dual(0, 0));
        Check.is("run", match.run(), 0);
        Check.is("sum", match.sum(), 0);
        for (int order = 0; order < 10; order++) {
            Check.is("dual", match.dual(1, order), 0);
        }
        Check.noIndex("dual of a piece", () -> match.dual(0, 0));
        Check.is("sale", match.sale(0), -1);
    }

    private static void piecesAlone() {
        SurplusMatch match = Check.alike(10, 0);
        Check.noIndex("fits", () -> match.fits(0, 0));
        Check.noIndex("reserve", () -> match.reserve(0, 0, 0));
        Check.noTurn("dual ahead of a run", () -> match.dual(0, 9));
        Check.noIndex("dual of an order ahead of a run", () -> match.dual(1, 0));
        Check.is("run", match.run(), 0);
        Check.is("sum", match.sum(), 0);
        for (int piece = 0; piece < 10; piece++) {
            Check.is("dual", match.dual(0, piece), 0);
            Check.is("several", match.several(piece), 0);
            Check.used("none", match, piece);
            int p = piece;
            Check.noTurn("undo", () -> match.undo(p));
        }
        Check.noIndex("dual of an order", () -> match.dual(1, 0));
    }

    private static void noneFits() {
        SurplusMatch match = new SurplusMatch();
        match.piece(1, 5, 5, 0);
        match.order(2, 5, 5, 0);
        match.order(1, 6, 5, 0);
        match.order(1, 5, 6, 0);
        match.order(1, 5, 5, 1);
        Check.is("run", match.run(), 0);
        Check.is("sum", match.sum(), 0);
        Check.used("none", match, 0);
        Check.is("dual of the piece", match.dual(0, 0), 0);
        for (int order = 0; order < 4; order++) {
            Check.is("dual of an order", match.dual(1, order), 0);
        }
    }

    private static void noneLeft() {
        SurplusMatch match = Check.alike(2, 2);
        Check.worths(match, new int[][] {{3, 0}, {0, 4}});
        Check.is("run", match.run(), 2);
        Check.is("sum", match.sum(), 7);
        Check.is("run again", match.run(), 0);
        Check.is("sum of the latest", match.sum(), 0);
        for (int k = 0; k < 2; k++) {
            Check.is("dual of a used piece", match.dual(0, k), 0);
            Check.is("dual of a used order", match.dual(1, k), 0);
            Check.used("as it was", match, k, k);
        }
    }

    private static void sumAhead() {
        SurplusMatch match = Scene.full();
        Check.is("no run yet", match.sum(), 0);
        match.several(9);
        Check.is("several is no run", match.sum(), 0);
        match.undo(9);
        Check.is("undo is no run", match.sum(), 0);
    }

    private static void severalNone() {
        SurplusMatch match = new SurplusMatch();
        match.piece(1, 5, 5, 0);
        match.rules(0, 0, 0);
        Check.is("no orders", match.several(0), 0);
        match.order(1, 5, 6, 0);
        Check.is("none that it fits", match.several(0), 0);
        match.order(1, 5, 5, 0);
        match.piece(1, 5, 5, 0);
        match.reserve(1, 1, 0);
        Check.is("none that is not reserved", match.several(0), 0);
        match.run();
        Check.is("none that is not used", match.several(0), 0);
        Check.used("not used", match, 0);
        Check.noTurn("nothing to undo", () -> match.undo(0));
        Check.is("still for sale", match.sale(0), 0);
        match.undo(1);
        match.reserve(0, 1, 0);
        Check.is("still to be reserved", match.reserved(0), 1);
    }

    private static void orderOfNone() {
        SurplusMatch match = new SurplusMatch();
        match.piece(1, 5, 5, 0);
        for (int k = 0; k < 5; k++) {
            match.order(1, 5, 1, 0);
        }
        Check.is("not used", match.orderOf(0, 0), -1);
        match.several(0);
        Check.is("the last of five", match.orderOf(0, 4), 4);
        for (int i : new int[] {5, 6, 31, 32, 33, Integer.MAX_VALUE}) {
            Check.is("place " + i, match.orderOf(0, i), -1);
        }
        match.undo(0);
        match.reserve(0, 0, 0);
        Check.is("reserved is not used", match.orderOf(0, 0), -1);
    }

    private static void reservedNone() {
        SurplusMatch match = Check.alike(2, 2);
        Check.is("none yet", match.reserved(0), -1);
        match.reserve(0, 1, 0);
        Check.is("reserved", match.reserved(0), 1);
        Check.is("the other piece", match.reserved(1), -1);
        match.run();
        Check.is("used", match.reserved(0), -1);
        match.undo(0);
        Check.is("undone", match.reserved(0), -1);
        match.reserve(0, 1, 0);
        match.tick(1);
        Check.is("behind its day", match.reserved(0), -1);
    }

    private static void saleNone() {
        SurplusMatch match = Check.alike(3, 1);
        match.rules(0, 0, 0);
        match.reserve(0, 0, 0);
        Check.is("the first", match.sale(0), 1);
        Check.is("the second", match.sale(1), 2);
        for (int i : new int[] {2, 3, 10, Integer.MAX_VALUE}) {
            Check.is("place " + i, match.sale(i), -1);
        }
        match.rules(0, 0, 1);
        Check.is("none is old enough", match.sale(0), -1);
    }

    private static void dualNone() {
        SurplusMatch match = Check.alike(3, 3);
        Check.worths(match, new int[][] {{9, 9, 9}, {9, 9, 9}, {9, 9, 9}});
        match.several(0);
        match.order(1, 6, 6, 0);
        match.piece(2, 5, 5, 0);
        match.run();
        Check.is("a piece that was used", match.dual(0, 0), 0);
        Check.is("an order that was used", match.dual(1, 0), 0);
        Check.is("an order that none fits", match.dual(1, 3), 0);
        Check.is("a piece that fits none", match.dual(0, 3), 0);
        Check.is("sum of the others", match.sum(), 18);
    }
}
