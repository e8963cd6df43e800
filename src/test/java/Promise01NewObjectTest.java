/** Promise 1: no pieces, no orders, day 0, the first rules. */
public final class Promise01NewObjectTest {
    public static void main(String[] args) {
        isEmpty();
        hasFirstRules();
        isApartFromOthers();
        Check.end();
    }

    private static void isEmpty() {
        SurplusMatch match = new SurplusMatch();
        Check.noIndex("fits", () -> match.fits(0, 0));
        Check.noIndex("net", () -> match.net(0, 0));
        Check.noIndex("worth", () -> match.worth(0, 0, 0));
        Check.noIndex("dual of a piece", () -> match.dual(0, 0));
        Check.noIndex("dual of an order", () -> match.dual(1, 0));
        Check.noIndex("several", () -> match.several(0));
        Check.noIndex("orderOf", () -> match.orderOf(0, 0));
        Check.noIndex("reserve", () -> match.reserve(0, 0, 0));
        Check.noIndex("reserved", () -> match.reserved(0));
        Check.noIndex("undo", () -> match.undo(0));
        Check.is("sum", match.sum(), 0);
        Check.is("sale", match.sale(0), -1);
        Check.is("run", match.run(), 0);
        Check.is("sum", match.sum(), 0);
        Check.is("tick", match.tick(1), 1);
        Check.is("piece", match.piece(1, 1, 1, 0), 0);
        Check.is("order", match.order(1, 1, 1, 0), 0);
    }

    private static void hasFirstRules() {
        SurplusMatch match = new SurplusMatch();
        match.piece(1, 9, 9, 0);
        match.order(1, 1, 1, 0);
        Check.is("no worth told", match.net(0, 0), 0);
        match.worth(0, 0, 10);
        match.tick(99);
        Check.is("no cut, no aging", match.net(0, 0), 10);
        Check.is("for sale after 99 days", match.sale(0), -1);
        match.tick(1);
        Check.is("for sale after 100 days", match.sale(0), 0);
    }

    private static void isApartFromOthers() {
        SurplusMatch first = Check.alike(2, 2);
        SurplusMatch second = new SurplusMatch();
        first.run();
        Check.is("run of the other", second.run(), 0);
        Check.is("number of the other", second.piece(1, 1, 1, 0), 0);
        Check.is("number of the first", first.piece(1, 1, 1, 0), 2);
    }
}
