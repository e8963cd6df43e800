/** Every range of the document: the last value inside and the first one outside, at both ends. */
public final class EdgeRangesTest {
    public static void main(String[] args) {
        Check.sentence("TODAY is 0 at first", EdgeRangesTest::firstDay);
        Check.sentence("days 0 .. 9,999", EdgeRangesTest::lastDay);
        Check.sentence("Time goes on (1 .. 1,000 days)", EdgeRangesTest::daysAtOnce);
        Check.sentence("PIECES have THICK, WIDE, LONG (1 .. 1,000 each)", EdgeRangesTest::pieceSizes);
        Check.sentence("PIECES have a GRADE (0 .. 7)", EdgeRangesTest::pieceGrades);
        Check.sentence("ORDERS likewise, sizes", EdgeRangesTest::orderSizes);
        Check.sentence("ORDERS likewise, grades", EdgeRangesTest::orderGrades);
        Check.sentence("PIECES 0, 1, .. (at most 10)", EdgeRangesTest::tenPieces);
        Check.sentence("ORDERS 0, 1, .. (at most 10)", EdgeRangesTest::tenOrders);
        Check.sentence("THE WORTH is told (0 .. 1,000,000)", EdgeRangesTest::worths);
        Check.sentence("THE WORTH: 0 at first", EdgeRangesTest::firstWorth);
        Check.sentence("the CUT (0 .. 1,000)", EdgeRangesTest::cuts);
        Check.sentence("the CUT: 0 at first", EdgeRangesTest::firstCut);
        Check.sentence("AGING (0 .. 1,000)", EdgeRangesTest::agings);
        Check.sentence("AGING: 0 at first", EdgeRangesTest::firstAging);
        Check.sentence("FOR SALE (0 .. 9,999)", EdgeRangesTest::saleAges);
        Check.sentence("FOR SALE: 100 at first", EdgeRangesTest::firstSaleAge);
        Check.sentence("reserve: the day is past, or none", EdgeRangesTest::reservedDays);
        Check.sentence("index: no such number", EdgeRangesTest::numbers);
        Check.sentence("dual: side 0 of piece k, 1 of order k", EdgeRangesTest::sides);
        Check.sentence("orderOf: i is below 0", EdgeRangesTest::orderOfPlaces);
        Check.sentence("sale: i is below 0", EdgeRangesTest::salePlaces);
        Check.end();
    }

    private static void firstDay() {
        SurplusMatch match = Check.alike(1, 1);
        Check.noRange("day -1 is past", () -> match.reserve(0, 0, -1));
        match.reserve(0, 0, 0);
        Check.is("day 0 is today", match.reserved(0), 0);
        Check.is("the day behind it", match.tick(1), 1);
        Check.is("day 0 is past", match.reserved(0), -1);
    }

    private static void lastDay() {
        SurplusMatch match = new SurplusMatch();
        for (int day = 1000; day <= 9000; day += 1000) {
            Check.is("today", match.tick(1000), day);
        }
        Check.noRange("day 10,000 by 1,000", () -> match.tick(1000));
        Check.is("day 9,999 by 999", match.tick(999), 9999);
        Check.noRange("day 10,000 by 1", () -> match.tick(1));
        SurplusMatch near = Scene.onDay(9998);
        Check.noRange("day 10,000 by 2", () -> near.tick(2));
        Check.is("day 9,999 by 1", near.tick(1), 9999);
        SurplusMatch far = Scene.onDay(8999);
        Check.is("day 9,999 by 1,000", far.tick(1000), 9999);
    }

    private static void daysAtOnce() {
        SurplusMatch match = new SurplusMatch();
        Check.noRange("0", () -> match.tick(0));
        Check.noRange("1,001", () -> match.tick(1001));
        Check.is("1", match.tick(1), 1);
        Check.noRange("-1 does not go back", () -> match.tick(-1));
        Check.is("1,000", match.tick(1000), 1001);
        Check.noRange("the most int does not come round", () -> match.tick(Integer.MAX_VALUE));
        Check.noRange("the least int", () -> match.tick(Integer.MIN_VALUE));
        Check.is("2", match.tick(2), 1003);
        Check.is("999", match.tick(999), 2002);
    }

    private static int[] with(int place, int value) {
        int[] sizes = {500, 500, 500, 3};
        sizes[place] = value;
        return sizes;
    }

    private static int piece(SurplusMatch match, int[] sizes) {
        return match.piece(sizes[0], sizes[1], sizes[2], sizes[3]);
    }

    private static int order(SurplusMatch match, int[] sizes) {
        return match.order(sizes[0], sizes[1], sizes[2], sizes[3]);
    }

    private static void pieceSizes() {
        for (int place = 0; place < 3; place++) {
            SurplusMatch match = new SurplusMatch();
            int at = place;
            Check.noRange("0 at " + at, () -> piece(match, with(at, 0)));
            Check.noRange("1,001 at " + at, () -> piece(match, with(at, 1001)));
            Check.is("1 at " + at, piece(match, with(at, 1)), 0);
            Check.is("1,000 at " + at, piece(match, with(at, 1000)), 1);
            order(match, with(at, 1));
            order(match, with(at, 1000));
            Check.is("1 is kept", match.fits(0, 0), true);
            Check.is("1 is no 1,000", match.fits(0, 1), false);
            Check.is("1,000 is kept", match.fits(1, 1), true);
            Check.is("1,000 for 1: not if it is thick", match.fits(1, 0), at != 0);
        }
    }

    private static void pieceGrades() {
        SurplusMatch match = new SurplusMatch();
        Check.noRange("-1", () -> piece(match, with(3, -1)));
        Check.noRange("8", () -> piece(match, with(3, 8)));
        for (int grade = 0; grade <= 7; grade++) {
            Check.is("grade " + grade, piece(match, with(3, grade)), grade);
            order(match, with(3, grade));
        }
        for (int grade = 0; grade <= 7; grade++) {
            for (int other = 0; other <= 7; other++) {
                Check.is("kept " + grade + ", " + other, match.fits(grade, other), grade == other);
            }
        }
    }

    private static void orderSizes() {
        for (int place = 0; place < 3; place++) {
            SurplusMatch match = new SurplusMatch();
            int at = place;
            Check.noRange("0 at " + at, () -> order(match, with(at, 0)));
            Check.noRange("1,001 at " + at, () -> order(match, with(at, 1001)));
            Check.is("1,000 at " + at, order(match, with(at, 1000)), 0);
            Check.is("1 at " + at, order(match, with(at, 1)), 1);
            piece(match, with(at, 1));
            piece(match, with(at, 1000));
            Check.is("1,000 is kept", match.fits(0, 0), false);
            Check.is("1 is kept", match.fits(0, 1), true);
            Check.is("1,000 takes 1,000", match.fits(1, 0), true);
        }
    }

    private static void orderGrades() {
        SurplusMatch match = new SurplusMatch();
        Check.noRange("-1", () -> order(match, with(3, -1)));
        Check.noRange("8", () -> order(match, with(3, 8)));
        Check.is("0", order(match, with(3, 0)), 0);
        Check.is("7", order(match, with(3, 7)), 1);
        piece(match, with(3, 7));
        Check.is("0 is kept", match.fits(0, 0), false);
        Check.is("7 is kept", match.fits(0, 1), true);
    }

    private static void tenPieces() {
        SurplusMatch match = Check.alike(9, 0);
        Check.is("the tenth", match.piece(1, 1, 1, 0), 9);
        Check.noMeaning("the eleventh", () -> match.piece(1, 1, 1, 0));
        Check.is("the tenth is there", match.reserved(9), -1);
        Check.noIndex("the eleventh is not", () -> match.reserved(10));
        match.order(1, 1, 1, 0);
        match.run();
        Check.noMeaning("used ones count", () -> match.piece(1, 1, 1, 0));
    }

    private static void tenOrders() {
        SurplusMatch match = Check.alike(1, 9);
        Check.is("the tenth", match.order(1, 1, 1, 0), 9);
        Check.noMeaning("the eleventh", () -> match.order(1, 1, 1, 0));
        Check.is("the tenth is there", match.fits(0, 9), true);
        Check.noIndex("the eleventh is not", () -> match.fits(0, 10));
        match.run();
        Check.noMeaning("used ones count", () -> match.order(1, 1, 1, 0));
    }

    private static void worths() {
        SurplusMatch match = Check.alike(1, 1);
        match.worth(0, 0, 1_000_000);
        Check.is("the most", match.net(0, 0), 1_000_000);
        Check.noRange("one more", () -> match.worth(0, 0, 1_000_001));
        Check.noRange("one less than none", () -> match.worth(0, 0, -1));
        Check.is("as it was", match.net(0, 0), 1_000_000);
        match.worth(0, 0, 0);
        Check.is("the least", match.net(0, 0), 0);
        match.worth(0, 0, 1);
        Check.is("told anew", match.net(0, 0), 1);
    }

    private static void firstWorth() {
        SurplusMatch match = Check.alike(10, 10);
        for (int piece = 0; piece < 10; piece++) {
            for (int order = 0; order < 10; order++) {
                Check.is("none told", match.net(piece, order), 0);
            }
        }
        match.run();
        Check.is("ten pairs of 0", match.sum(), 0);
    }

    /** A piece whose two sides are both cut, 10 days old. */
    private static SurplusMatch cutAndOld() {
        SurplusMatch match = new SurplusMatch();
        match.piece(1, 9, 9, 0);
        match.order(1, 8, 8, 0);
        match.worth(0, 0, 1_000_000);
        match.tick(10);
        return match;
    }

    private static void cuts() {
        SurplusMatch match = cutAndOld();
        match.rules(1000, 0, 0);
        Check.is("the most", match.net(0, 0), 998_000);
        Check.noRange("one more", () -> match.rules(1001, 0, 0));
        Check.noRange("one less than none", () -> match.rules(-1, 0, 0));
        Check.is("as it was", match.net(0, 0), 998_000);
        match.rules(0, 0, 0);
        Check.is("the least", match.net(0, 0), 1_000_000);
        match.rules(1, 0, 0);
        Check.is("1", match.net(0, 0), 999_998);
    }

    private static void firstCut() {
        SurplusMatch match = cutAndOld();
        Check.is("no rules told", match.net(0, 0), 1_000_000);
        match.rules(0, 0, 100);
        Check.is("0 told", match.net(0, 0), 1_000_000);
    }

    private static void agings() {
        SurplusMatch match = cutAndOld();
        match.rules(0, 1000, 0);
        Check.is("the most", match.net(0, 0), 990_000);
        Check.noRange("one more", () -> match.rules(0, 1001, 0));
        Check.noRange("one less than none", () -> match.rules(0, -1, 0));
        Check.is("as it was", match.net(0, 0), 990_000);
        match.rules(0, 0, 0);
        Check.is("the least", match.net(0, 0), 1_000_000);
        match.rules(0, 1, 0);
        Check.is("1", match.net(0, 0), 999_990);
    }

    private static void firstAging() {
        SurplusMatch match = Scene.onDay(9999);
        Check.is("no rules told, the last day", match.net(0, 0), 1_000_000);
    }

    private static void saleAges() {
        SurplusMatch match = new SurplusMatch();
        match.piece(1, 1, 1, 0);
        match.rules(0, 0, 0);
        Check.is("0: on its own day", match.sale(0), 0);
        match.rules(0, 0, 1);
        Check.is("1: not on its own day", match.sale(0), -1);
        Check.noRange("one less than none", () -> match.rules(0, 0, -1));
        Check.is("as it was", match.sale(0), -1);
        match.rules(0, 0, 9999);
        Check.noRange("one more than the most", () -> match.rules(0, 0, 10_000));
        Scene.goTo(match, 0, 9998);
        Check.is("9,999: not on day 9,998", match.sale(0), -1);
        match.tick(1);
        Check.is("9,999: on day 9,999", match.sale(0), 0);
    }

    private static void firstSaleAge() {
        SurplusMatch match = Scene.onDay(99);
        Check.is("99 days", match.sale(0), -1);
        match.tick(1);
        Check.is("100 days", match.sale(0), 0);
    }

    private static void reservedDays() {
        for (int day : new int[] {0, 1, 500, 9998, 9999}) {
            SurplusMatch match = Scene.onDay(day);
            Check.noRange("the day ahead of today", () -> match.reserve(0, 0, day - 1));
            Check.noRange("day 10,000", () -> match.reserve(0, 0, 10_000));
            Check.noRange("the least int", () -> match.reserve(0, 0, Integer.MIN_VALUE));
            Check.noRange("the most int", () -> match.reserve(0, 0, Integer.MAX_VALUE));
            Check.is("refused", match.reserved(0), -1);
            match.reserve(0, 0, day);
            Check.is("today", match.reserved(0), 0);
            SurplusMatch longest = Scene.onDay(day);
            longest.reserve(0, 0, 9999);
            Check.is("the last day", longest.reserved(0), 0);
        }
    }

    /** For every count of pieces and orders: the last number there is, and the first one there is not. */
    private static void numbers() {
        for (int count = 1; count <= 10; count++) {
            SurplusMatch match = Check.alike(count, count);
            int last = count - 1;
            int none = count;
            match.worth(last, last, 7);
            Check.is("the last ones fit", match.fits(last, last), true);
            Check.is("the last ones' worth", match.net(last, last), 7);
            match.reserve(last, last, 0);
            Check.is("the last one is reserved", match.reserved(last), last);
            Check.is("all", match.run(), count);
            Check.is("the last one is used", match.orderOf(last, 0), last);
            Check.is("the last piece's dual", match.dual(0, last), 0);
            Check.is("the last order's dual", match.dual(1, last), 7);
            match.undo(last);
            Check.is("the last one is undone", match.several(last), 1);
            for (int wrong : new int[] {none, -1, none + 32}) {
                Check.noIndex("fits, piece", () -> match.fits(wrong, last));
                Check.noIndex("fits, order", () -> match.fits(last, wrong));
                Check.noIndex("net, piece", () -> match.net(wrong, last));
                Check.noIndex("net, order", () -> match.net(last, wrong));
                Check.noIndex("worth, piece", () -> match.worth(wrong, last, 0));
                Check.noIndex("worth, order", () -> match.worth(last, wrong, 0));
                Check.noIndex("reserve, piece", () -> match.reserve(wrong, last, 0));
                Check.noIndex("reserve, order", () -> match.reserve(last, wrong, 0));
                Check.noIndex("reserved", () -> match.reserved(wrong));
                Check.noIndex("several", () -> match.several(wrong));
                Check.noIndex("orderOf", () -> match.orderOf(wrong, 0));
                Check.noIndex("undo", () -> match.undo(wrong));
                Check.noIndex("dual, piece", () -> match.dual(0, wrong));
                Check.noIndex("dual, order", () -> match.dual(1, wrong));
            }
        }
    }

    private static void sides() {
        SurplusMatch match = Check.alike(3, 2);
        match.run();
        Check.is("side 0, the last piece", match.dual(0, 2), 0);
        Check.noIndex("side 1 has no order 2", () -> match.dual(1, 2));
        Check.is("side 1, the last order", match.dual(1, 1), 0);
        Check.noIndex("side 2", () -> match.dual(2, 0));
        Check.noIndex("side -1", () -> match.dual(-1, 0));
        SurplusMatch other = Check.alike(2, 3);
        other.run();
        Check.is("side 1, the last order", other.dual(1, 2), 0);
        Check.noIndex("side 0 has no piece 2", () -> other.dual(0, 2));
    }

    private static void orderOfPlaces() {
        SurplusMatch match = Check.alike(2, 1);
        match.run();
        Check.is("0", match.orderOf(0, 0), 0);
        Check.is("1", match.orderOf(0, 1), -1);
        Check.is("the most int", match.orderOf(0, Integer.MAX_VALUE), -1);
        Check.noIndex("-1", () -> match.orderOf(0, -1));
        Check.noIndex("the least int", () -> match.orderOf(0, Integer.MIN_VALUE));
        Check.is("0 of a piece not used", match.orderOf(1, 0), -1);
        Check.noIndex("-1 of a piece not used", () -> match.orderOf(1, -1));
    }

    private static void salePlaces() {
        SurplusMatch match = Check.alike(10, 0);
        match.rules(0, 0, 0);
        for (int i = 0; i < 10; i++) {
            Check.is("place " + i, match.sale(i), i);
        }
        Check.is("place 10", match.sale(10), -1);
        Check.is("the most int", match.sale(Integer.MAX_VALUE), -1);
        Check.noIndex("-1", () -> match.sale(-1));
        Check.noIndex("the least int", () -> match.sale(Integer.MIN_VALUE));
    }
}
