/** Promise 4: a worth is told for a piece and an order that it fits. */
public final class Promise04WorthTest {
    public static void main(String[] args) {
        tells();
        tellsOfUsedOnes();
        refuses();
        Check.end();
    }

    private static void tells() {
        SurplusMatch match = Check.alike(10, 10);
        for (int piece = 0; piece < 10; piece++) {
            for (int order = 0; order < 10; order++) {
                match.worth(piece, order, 100 * piece + order);
            }
        }
        for (int piece = 0; piece < 10; piece++) {
            for (int order = 0; order < 10; order++) {
                Check.is("worth", match.net(piece, order), 100 * piece + order);
            }
        }
        match.worth(3, 4, 1_000_000);
        Check.is("the most", match.net(3, 4), 1_000_000);
        match.worth(3, 4, 0);
        Check.is("the least", match.net(3, 4), 0);
        Check.is("the next order's", match.net(3, 5), 305);
    }

    private static void tellsOfUsedOnes() {
        SurplusMatch match = Check.alike(1, 1);
        match.worth(0, 0, 5);
        match.run();
        match.worth(0, 0, 8);
        Check.is("told though used", match.net(0, 0), 8);
        Check.is("the latest sum stays", match.sum(), 5);
    }

    private static void refuses() {
        SurplusMatch match = new SurplusMatch();
        match.piece(1, 5, 5, 0);
        match.order(1, 5, 5, 0);
        match.order(2, 5, 5, 0);
        match.worth(0, 0, 7);
        Check.noIndex("piece -1", () -> match.worth(-1, 0, 0));
        Check.noIndex("piece 1", () -> match.worth(1, 0, 0));
        Check.noIndex("order -1", () -> match.worth(0, -1, 0));
        Check.noIndex("order 2", () -> match.worth(0, 2, 0));
        Check.noIndex("far piece", () -> match.worth(Integer.MAX_VALUE, 0, 0));
        Check.noIndex("far order", () -> match.worth(0, Integer.MIN_VALUE, 0));
        Check.noIndex("index ahead of range", () -> match.worth(0, 2, -1));
        Check.noRange("below 0", () -> match.worth(0, 0, -1));
        Check.noRange("above the most", () -> match.worth(0, 0, 1_000_001));
        Check.noRange("range ahead of meaning", () -> match.worth(0, 1, -1));
        Check.noMeaning("no fit", () -> match.worth(0, 1, 1));
        Check.is("nothing changed", match.net(0, 0), 7);
    }
}
