/** Days, fitting, worths and the best matching: the sentences that name an edge, each in a test of its own. */
public final class EdgeTermsTest {
    public static void main(String[] args) {
        Check.sentence("the day on which they came (the present one)", EdgeTermsTest::dayOfPieces);
        Check.sentence("ORDERS likewise (without a day)", EdgeTermsTest::noDayOfOrders);
        Check.sentence("FITS when both have the grade", EdgeTermsTest::gradesFit);
        Check.sentence("FITS: thick is the same", EdgeTermsTest::thicksFit);
        Check.sentence("FITS: wide is not below the order's", EdgeTermsTest::widesFit);
        Check.sentence("FITS: long is not below the order's", EdgeTermsTest::lengthsFit);
        Check.sentence("the CUT for each side (wide, long) that is not just the order's", EdgeTermsTest::cutSides);
        Check.sentence("AGING: so much a day since it came", EdgeTermsTest::agingDays);
        Check.sentence("not below 0: by the cut", EdgeTermsTest::notBelowZeroByCut);
        Check.sentence("not below 0: by aging", EdgeTermsTest::notBelowZeroByAging);
        Check.sentence("not below 0: by both, the most of all", EdgeTermsTest::notBelowZeroByBoth);
        Check.sentence("not below 0: each worth of a sum", EdgeTermsTest::notBelowZeroInSums);
        Check.sentence("A piece that is used takes no part", EdgeTermsTest::usedPieceTakesNoPart);
        Check.sentence("an order that is used takes no part", EdgeTermsTest::usedOrderTakesNoPart);
        Check.sentence("each piece one order at most", EdgeTermsTest::oneOrderAPiece);
        Check.sentence("each order one piece at most", EdgeTermsTest::onePieceAnOrder);
        Check.sentence("pieces RESERVED for an order take no other one", EdgeTermsTest::reservedPieceTakesNoOther);
        Check.sentence("reserved orders no other piece", EdgeTermsTest::reservedOrderTakesNoOther);
        Check.sentence("THE BEST has the greatest sum, by one cent", EdgeTermsTest::sumByOneCent);
        Check.sentence("of these the most pairs", EdgeTermsTest::mostPairs);
        Check.sentence("of piece 0 the lowest order", EdgeTermsTest::lowestOrderOfPieceZero);
        Check.sentence("an order ahead of none", EdgeTermsTest::orderAheadOfNone);
        Check.sentence("then of piece 1, ..", EdgeTermsTest::thenOfPieceOne);
        Check.sentence("It is DONE by run(): its pairs are used", EdgeTermsTest::pairsAreUsed);
        Check.end();
    }

    private static SurplusMatch pair(int[] piece, int[] order) {
        SurplusMatch match = new SurplusMatch();
        match.piece(piece[0], piece[1], piece[2], piece[3]);
        match.order(order[0], order[1], order[2], order[3]);
        return match;
    }

    private static void fits(String what, int[] piece, int[] order, boolean due) {
        SurplusMatch match = pair(piece, order);
        Check.is(what, match.fits(0, 0), due);
        if (due) {
            match.worth(0, 0, 1);
            match.reserve(0, 0, 0);
            Check.is(what + ", net", match.net(0, 0), 1);
            Check.is(what + ", run", match.run(), 1);
        } else {
            Check.noMeaning(what + ", worth", () -> match.worth(0, 0, 1));
            Check.noMeaning(what + ", net", () -> match.net(0, 0));
            Check.noMeaning(what + ", reserve", () -> match.reserve(0, 0, 0));
            Check.is(what + ", several", match.several(0), 0);
            Check.is(what + ", run", match.run(), 0);
        }
    }

    private static void dayOfPieces() {
        for (int day : new int[] {0, 1, 9998, 9999}) {
            SurplusMatch match = new SurplusMatch();
            match.order(1, 1, 1, 0);
            Scene.goTo(match, 0, day);
            match.piece(1, 1, 1, 0);
            match.rules(0, 1000, 0);
            match.worth(0, 0, 1_000_000);
            Check.is("no aging on day " + day, match.net(0, 0), 1_000_000);
            Check.is("0 days old on day " + day, match.sale(0), 0);
            match.rules(0, 1000, 1);
            Check.is("not 1 day old on day " + day, match.sale(0), -1);
        }
    }

    private static void noDayOfOrders() {
        SurplusMatch match = new SurplusMatch();
        match.rules(0, 5, 100);
        match.piece(1, 1, 1, 0);
        match.order(1, 1, 1, 0);
        match.tick(4);
        match.order(1, 1, 1, 0);
        match.worth(0, 0, 100);
        match.worth(0, 1, 100);
        Check.is("the old order", match.net(0, 0), 80);
        Check.is("the new order", match.net(0, 1), 80);
    }

    private static void gradesFit() {
        for (int grade = 0; grade <= 7; grade++) {
            for (int other = 0; other <= 7; other++) {
                fits("grades " + grade + ", " + other, new int[] {1, 5, 5, grade}, new int[] {1, 5, 5, other},
                        grade == other);
            }
        }
    }

    private static void thicksFit() {
        int[][] thicks = {{1, 1, 1}, {1, 2, 0}, {2, 1, 0}, {1000, 1000, 1}, {1000, 999, 0}, {999, 1000, 0}, {1, 1000, 0}};
        for (int[] pair : thicks) {
            fits("thick " + pair[0] + " for " + pair[1], new int[] {pair[0], 5, 5, 0}, new int[] {pair[1], 5, 5, 0},
                    pair[2] == 1);
        }
    }

    private static final int[][] NOT_BELOW =
            {{1, 1, 1}, {1, 2, 0}, {2, 1, 1}, {1000, 1000, 1}, {1000, 999, 1}, {999, 1000, 0}, {1000, 1, 1}, {1, 1000, 0}};

    private static void widesFit() {
        for (int[] pair : NOT_BELOW) {
            fits("wide " + pair[0] + " for " + pair[1], new int[] {1, pair[0], 5, 0}, new int[] {1, pair[1], 5, 0},
                    pair[2] == 1);
        }
        fits("not turned round", new int[] {1, 5, 9, 0}, new int[] {1, 9, 5, 0}, false);
    }

    private static void lengthsFit() {
        for (int[] pair : NOT_BELOW) {
            fits("long " + pair[0] + " for " + pair[1], new int[] {1, 5, pair[0], 0}, new int[] {1, 5, pair[1], 0},
                    pair[2] == 1);
        }
        fits("not turned round", new int[] {1, 9, 5, 0}, new int[] {1, 5, 9, 0}, false);
    }

    private static void cutSides() {
        int[][] orders = {{10, 20, 100}, {9, 20, 93}, {1, 20, 93}, {10, 19, 93}, {10, 1, 93}, {9, 19, 86}, {1, 1, 86}};
        for (int[] sizes : orders) {
            SurplusMatch match = pair(new int[] {3, 10, 20, 0}, new int[] {3, sizes[0], sizes[1], 0});
            match.worth(0, 0, 100);
            match.rules(7, 0, 100);
            Check.is("wide " + sizes[0] + ", long " + sizes[1], match.net(0, 0), sizes[2]);
        }
    }

    private static void agingDays() {
        SurplusMatch match = Check.alike(1, 1);
        match.worth(0, 0, 1_000_000);
        match.rules(0, 3, 100);
        Check.is("on its own day", match.net(0, 0), 1_000_000);
        match.tick(1);
        Check.is("a day later", match.net(0, 0), 999_997);
        Scene.goTo(match, 1, 9999);
        Check.is("on the last day", match.net(0, 0), 1_000_000 - 3 * 9999);
    }

    private static void notBelowZeroByCut() {
        int[][] cents = {{2001, 1}, {2000, 0}, {1999, 0}, {1000, 0}, {1, 0}, {0, 0}};
        for (int[] each : cents) {
            SurplusMatch match = pair(new int[] {1, 9, 9, 0}, new int[] {1, 8, 8, 0});
            match.rules(1000, 0, 100);
            match.worth(0, 0, each[0]);
            Check.is(each[0] + " less 2,000", match.net(0, 0), each[1]);
        }
    }

    private static void notBelowZeroByAging() {
        SurplusMatch match = Check.alike(1, 1);
        match.rules(0, 10, 100);
        match.worth(0, 0, 21);
        match.tick(2);
        Check.is("21 less 20", match.net(0, 0), 1);
        match.worth(0, 0, 20);
        Check.is("20 less 20", match.net(0, 0), 0);
        match.worth(0, 0, 19);
        Check.is("19 less 20", match.net(0, 0), 0);
        match.rules(0, 9, 100);
        Check.is("the worth told is kept", match.net(0, 0), 1);
    }

    private static void notBelowZeroByBoth() {
        SurplusMatch match = pair(new int[] {1, 1000, 1000, 0}, new int[] {1, 1, 1, 0});
        match.worth(0, 0, 1_000_000);
        match.rules(1000, 1000, 9999);
        match.tick(997);
        Check.is("day 997", match.net(0, 0), 1000);
        match.tick(1);
        Check.is("day 998", match.net(0, 0), 0);
        match.tick(1);
        Check.is("day 999", match.net(0, 0), 0);
        Scene.goTo(match, 999, 9999);
        Check.is("day 9,999", match.net(0, 0), 0);
        match.worth(0, 0, 0);
        Check.is("no worth at all", match.net(0, 0), 0);
        Check.is("a pair of 0 is done", match.run(), 1);
        Check.is("its sum", match.sum(), 0);
    }

    private static void notBelowZeroInSums() {
        SurplusMatch match = Check.alike(2, 2);
        match.order(1, 5, 4, 0);
        match.worth(0, 0, 50);
        match.rules(100, 0, 100);
        match.worth(1, 2, 60);
        Check.is("two pairs", match.run(), 2);
        Check.is("60 less 100 takes nothing off the sum", match.sum(), 50);
        Check.is("dual of a pair of 0", match.dual(0, 1), 0);
        Check.used("the lowest order of 0", match, 1, 1);
    }

    private static void usedPieceTakesNoPart() {
        SurplusMatch match = Check.alike(2, 2);
        match.rules(0, 0, 0);
        Check.worths(match, new int[][] {{100, 100}, {1, 1}});
        match.several(0);
        Check.noTurn("several", () -> match.several(0));
        Check.noTurn("reserve", () -> match.reserve(0, 1, 0));
        Check.is("not for sale", match.sale(0), 1);
        Check.is("one pair is left", match.run(), 1);
        Check.is("its sum", match.sum(), 1);
        Check.used("the piece that was left", match, 1, 1);
        Check.is("no dual", match.dual(0, 0), 0);
        Check.is("the order that was left", match.dual(1, 1), 1);
        Check.used("as it was", match, 0, 0);
    }

    private static void usedOrderTakesNoPart() {
        SurplusMatch match = Check.alike(2, 2);
        Check.worths(match, new int[][] {{100, 1}, {100, 1}});
        match.several(0);
        Check.used("order 0 is used", match, 0, 0);
        Check.noTurn("reserve", () -> match.reserve(1, 0, 0));
        Check.is("one pair is left", match.run(), 1);
        Check.is("its sum", match.sum(), 1);
        Check.used("the order that was left", match, 1, 1);
        Check.is("no dual", match.dual(1, 0), 0);
        match.undo(1);
        Check.is("several", match.several(1), 1);
        Check.used("the order that was left", match, 1, 1);
    }

    private static void oneOrderAPiece() {
        SurplusMatch match = Check.alike(1, 10);
        for (int order = 0; order < 10; order++) {
            match.worth(0, order, 100 + order);
        }
        Check.is("one pair", match.run(), 1);
        Check.is("one worth", match.sum(), 109);
        Check.used("one order", match, 0, 9);
        Check.is("dual of the best order", match.dual(1, 9), 1);
        Check.is("dual of the piece", match.dual(0, 0), 108);
    }

    private static void onePieceAnOrder() {
        SurplusMatch match = Check.alike(10, 1);
        for (int piece = 0; piece < 10; piece++) {
            match.worth(piece, 0, 100 + piece);
        }
        Check.is("one pair", match.run(), 1);
        Check.is("one worth", match.sum(), 109);
        Check.used("the best piece", match, 9, 0);
        for (int piece = 0; piece < 9; piece++) {
            Check.used("no other", match, piece);
        }
        Check.is("dual of the order", match.dual(1, 0), 109);
        Check.is("dual of the piece", match.dual(0, 9), 0);
    }

    private static void reservedPieceTakesNoOther() {
        SurplusMatch match = Check.alike(1, 2);
        Check.worths(match, new int[][] {{1000, 1}});
        match.reserve(0, 1, 0);
        Check.is("one pair", match.run(), 1);
        Check.is("its sum", match.sum(), 1);
        Check.used("its order", match, 0, 1);
        Check.is("the other order's dual", match.dual(1, 0), 0);
    }

    private static void reservedOrderTakesNoOther() {
        SurplusMatch match = Check.alike(2, 1);
        Check.worths(match, new int[][] {{1000}, {1}});
        match.reserve(1, 0, 0);
        Check.is("not cut from another", match.several(0), 0);
        Check.is("one pair", match.run(), 1);
        Check.is("its sum", match.sum(), 1);
        Check.used("its piece", match, 1, 0);
        Check.used("the other piece", match, 0);
    }

    private static void sumByOneCent() {
        SurplusMatch match = Check.alike(2, 2);
        Check.worths(match, new int[][] {{999_999, 1_000_000}, {999_999, 999_999}});
        match.run();
        Check.is("1,999,999", match.sum(), 1_999_999);
        Check.used("piece 0", match, 0, 1);
        Check.used("piece 1", match, 1, 0);
        SurplusMatch few = new SurplusMatch();
        few.piece(1, 9, 9, 0);
        few.order(1, 9, 9, 0);
        for (int k = 0; k < 9; k++) {
            few.piece(1, 1, 1, 0);
            few.order(1, 1, 1, 0);
        }
        few.worth(0, 1, 1);
        Check.is("one cent is ahead of one more pair", few.run(), 9);
        Check.is("one cent", few.sum(), 1);
        Check.used("piece 0", few, 0, 1);
        Check.used("the last piece has none", few, 9);
    }

    private static void mostPairs() {
        SurplusMatch match = new SurplusMatch();
        match.piece(1, 9, 9, 0);
        match.order(1, 1, 1, 0);
        match.order(1, 9, 9, 0);
        match.piece(1, 1, 1, 0);
        Check.is("two pairs of 0, not the lowest order of piece 0", match.run(), 2);
        Check.used("piece 0", match, 0, 1);
        Check.used("piece 1", match, 1, 0);
        SurplusMatch same = new SurplusMatch();
        same.piece(1, 9, 9, 0);
        same.order(1, 1, 1, 0);
        same.order(1, 9, 9, 0);
        same.piece(1, 1, 1, 0);
        same.worth(0, 0, 8);
        same.worth(0, 1, 8);
        Check.is("the same sum by two pairs", same.run(), 2);
        Check.is("sum", same.sum(), 8);
    }

    private static void lowestOrderOfPieceZero() {
        SurplusMatch match = Check.alike(2, 3);
        Check.worths(match, new int[][] {{5, 5, 5}, {5, 5, 5}});
        match.run();
        Check.used("piece 0", match, 0, 0);
        Check.used("piece 1", match, 1, 1);
        SurplusMatch crossed = Check.alike(2, 2);
        Check.worths(crossed, new int[][] {{4, 6}, {3, 5}});
        crossed.run();
        Check.used("4 and 5 ahead of 6 and 3", crossed, 0, 0);
        Check.used("4 and 5 ahead of 6 and 3", crossed, 1, 1);
    }

    private static void orderAheadOfNone() {
        SurplusMatch match = Check.alike(3, 2);
        Check.worths(match, new int[][] {{5, 5}, {5, 5}, {5, 5}});
        Check.is("two pairs", match.run(), 2);
        Check.used("piece 0", match, 0, 0);
        Check.used("piece 1", match, 1, 1);
        Check.used("piece 2 has none", match, 2);
        SurplusMatch last = Check.alike(2, 1);
        last.order(1, 5, 4, 0);
        last.reserve(1, 0, 0);
        Check.is("the last order ahead of none", last.run(), 2);
        Check.used("piece 0", last, 0, 1);
    }

    private static void thenOfPieceOne() {
        SurplusMatch match = Check.alike(3, 3);
        Check.worths(match, new int[][] {{0, 9, 0}, {4, 0, 6}, {3, 0, 5}});
        match.run();
        Check.used("piece 0", match, 0, 1);
        Check.used("4 and 5 ahead of 6 and 3", match, 1, 0);
        Check.used("4 and 5 ahead of 6 and 3", match, 2, 2);
    }

    private static void pairsAreUsed() {
        SurplusMatch match = Check.alike(2, 2);
        match.rules(0, 0, 0);
        match.reserve(0, 1, 5);
        Check.is("two pairs", match.run(), 2);
        for (int piece = 0; piece < 2; piece++) {
            int p = piece;
            Check.used("by pairs", match, p, 1 - p);
            Check.is("not reserved", match.reserved(p), -1);
            Check.noTurn("several", () -> match.several(p));
            Check.noTurn("reserve", () -> match.reserve(p, 0, 5));
        }
        Check.is("none for sale", match.sale(0), -1);
    }
}
