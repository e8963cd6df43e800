/**
 * Surplus pieces to orders: which fit by grade and sizes, worths less cutting, the greatest
 * matching with duals that prove it, several small orders from one piece by trying,
 * reservations that hold to their day, undoing, aging, lists for sale.
 */
public final class SurplusMatch {
    private static final int MOST_BOARDS = 10;
    private static final int MOST_FROM_ONE = 5;
    private static final int MOST_SIZE = 1_000;
    private static final int MOST_GRADE = 7;
    private static final int MOST_CENTS = 1_000_000;
    private static final int MOST_OFF = 1_000;
    private static final int MOST_DAYS_AT_ONCE = 1_000;
    private static final int LAST_DAY = 9_999;
    private static final int FIRST_SALE_AGE = 100;
    private static final int NONE = -1;

    private final Boards pieces;
    private final Boards orders;
    private final int[] cameOn;
    private final int[] told;
    private final Uses uses;
    private final Holds holds;
    private final Matching matching;
    private int today;
    private int cutOff;
    private int agingOff;
    private int saleAge;

    public SurplusMatch() {
        pieces = new Boards();
        orders = new Boards();
        cameOn = new int[MOST_BOARDS];
        told = new int[MOST_BOARDS * MOST_BOARDS];
        uses = new Uses();
        holds = new Holds();
        matching = new Matching();
        saleAge = FIRST_SALE_AGE;
    }

    public int piece(int thick, int wide, int length, int grade)
            throws IllegalArgumentException, UnsupportedOperationException {
        refuseBoard(pieces, thick, wide, length, grade);
        matching.outdate();
        int number = pieces.add(thick, wide, length, grade);
        cameOn[number] = today;
        return number;
    }

    public int order(int thick, int wide, int length, int grade)
            throws IllegalArgumentException, UnsupportedOperationException {
        refuseBoard(orders, thick, wide, length, grade);
        matching.outdate();
        return orders.add(thick, wide, length, grade);
    }

    public void worth(int piece, int order, int cents)
            throws IndexOutOfBoundsException, IllegalArgumentException, UnsupportedOperationException {
        refuseUnknownPair(piece, order);
        if (!isWithin(cents, 0, MOST_CENTS)) {
            throw new IllegalArgumentException("the worth is not 0 .. 1,000,000");
        }
        refuseMisfit(piece, order);
        told[pairIndex(piece, order)] = cents;
    }

    public void rules(int cut, int aging, int sale) throws IllegalArgumentException {
        if (!isWithin(cut, 0, MOST_OFF)) {
            throw new IllegalArgumentException("the cut is not 0 .. 1,000");
        }
        if (!isWithin(aging, 0, MOST_OFF)) {
            throw new IllegalArgumentException("the aging is not 0 .. 1,000");
        }
        if (!isWithin(sale, 0, LAST_DAY)) {
            throw new IllegalArgumentException("the days up to the sale are not 0 .. 9,999");
        }
        cutOff = cut;
        agingOff = aging;
        saleAge = sale;
    }

    public boolean fits(int piece, int order) throws IndexOutOfBoundsException {
        refuseUnknownPair(piece, order);
        return pieces.suits(piece, orders, order);
    }

    public int net(int piece, int order) throws IndexOutOfBoundsException, UnsupportedOperationException {
        refuseUnknownPair(piece, order);
        refuseMisfit(piece, order);
        return worthToday(piece, order);
    }

    public int run() {
        offerPairs();
        matching.solve(pieces.size(), orders.size());
        for (int piece = 0; piece < pieces.size(); piece++) {
            int order = matching.chosenFor(piece);
            if (order != NONE) {
                cutPiece(piece, 1 << order);
            }
        }
        return matching.pairCount();
    }

    public int sum() {
        return matching.bestSum();
    }

    public int dual(int side, int k) throws IndexOutOfBoundsException, IllegalStateException {
        if (side != 0 && side != 1) {
            throw new IndexOutOfBoundsException("no such side");
        }
        Boards boards = side == 0 ? pieces : orders;
        if (!boards.has(k)) {
            throw new IndexOutOfBoundsException("no such piece or order");
        }
        if (!matching.isUpToDate()) {
            throw new IllegalStateException("no run since the last piece or order came");
        }
        return side == 0 ? matching.dualOfPiece(k) : matching.dualOfOrder(k);
    }

    public int several(int piece) throws IndexOutOfBoundsException, IllegalStateException {
        refuseUnknownPiece(piece);
        if (uses.isPieceUsed(piece) || holds.isPieceHeld(piece)) {
            throw new IllegalStateException("the piece is used or reserved");
        }
        int set = bestSet(piece);
        if (set != 0) {
            cutPiece(piece, set);
        }
        return Integer.bitCount(set);
    }

    public int orderOf(int piece, int i) throws IndexOutOfBoundsException {
        refuseUnknownPiece(piece);
        refuseNegative(i);
        return uses.orderAt(piece, i);
    }

    public void reserve(int piece, int order, int day)
            throws IndexOutOfBoundsException, IllegalStateException, IllegalArgumentException,
            UnsupportedOperationException {
        refuseUnknownPair(piece, order);
        if (uses.isPieceUsed(piece) || uses.isOrderUsed(order)) {
            throw new IllegalStateException("the piece or the order is used");
        }
        if (holds.isPieceHeld(piece) || holds.isOrderHeld(order)) {
            throw new IllegalStateException("the piece or the order is reserved");
        }
        if (!isWithin(day, today, LAST_DAY)) {
            throw new IllegalArgumentException("the day is past, or none");
        }
        refuseMisfit(piece, order);
        holds.hold(piece, order, day);
    }

    public int reserved(int piece) throws IndexOutOfBoundsException {
        refuseUnknownPiece(piece);
        return holds.orderHeldBy(piece);
    }

    public void undo(int piece) throws IndexOutOfBoundsException, IllegalStateException {
        refuseUnknownPiece(piece);
        if (!uses.isPieceUsed(piece)) {
            throw new IllegalStateException("the piece is not used");
        }
        uses.free(piece);
    }

    public int sale(int i) throws IndexOutOfBoundsException {
        refuseNegative(i);
        int ahead = 0;
        // Days never go back, so the pieces by numbers are the oldest first as well.
        for (int piece = 0; piece < pieces.size(); piece++) {
            if (isForSale(piece)) {
                if (ahead == i) {
                    return piece;
                }
                ahead++;
            }
        }
        return NONE;
    }

    public int tick(int days) throws IllegalArgumentException {
        if (!isWithin(days, 1, MOST_DAYS_AT_ONCE)) {
            throw new IllegalArgumentException("the days are not 1 .. 1,000");
        }
        if (today + days > LAST_DAY) {
            throw new IllegalArgumentException("beyond day 9,999");
        }
        today += days;
        holds.dropBefore(today);
        return today;
    }

    private static boolean isWithin(int value, int least, int most) {
        return value >= least && value <= most;
    }

    private static int pairIndex(int piece, int order) {
        return piece * MOST_BOARDS + order;
    }

    private static void refuseBoard(Boards boards, int thick, int wide, int length, int grade) {
        if (!isWithin(thick, 1, MOST_SIZE) || !isWithin(wide, 1, MOST_SIZE) || !isWithin(length, 1, MOST_SIZE)) {
            throw new IllegalArgumentException("a size is not 1 .. 1,000");
        }
        if (!isWithin(grade, 0, MOST_GRADE)) {
            throw new IllegalArgumentException("the grade is not 0 .. 7");
        }
        if (boards.isFull()) {
            throw new UnsupportedOperationException("there are 10");
        }
    }

    private void refuseUnknownPiece(int piece) {
        if (!pieces.has(piece)) {
            throw new IndexOutOfBoundsException("no such piece");
        }
    }

    private void refuseUnknownPair(int piece, int order) {
        refuseUnknownPiece(piece);
        if (!orders.has(order)) {
            throw new IndexOutOfBoundsException("no such order");
        }
    }

    private static void refuseNegative(int i) {
        if (i < 0) {
            throw new IndexOutOfBoundsException("below 0");
        }
    }

    private void refuseMisfit(int piece, int order) {
        if (!pieces.suits(piece, orders, order)) {
            throw new UnsupportedOperationException("the piece does not fit the order");
        }
    }

    private int worthToday(int piece, int order) {
        int off = cutOff * pieces.sidesToCut(piece, orders, order) + agingOff * ageOf(piece);
        return Math.max(0, told[pairIndex(piece, order)] - off);
    }

    private int ageOf(int piece) {
        return today - cameOn[piece];
    }

    private boolean isForSale(int piece) {
        return !uses.isPieceUsed(piece) && !holds.isPieceHeld(piece) && ageOf(piece) >= saleAge;
    }

    private boolean mayPair(int piece, int order) {
        return !uses.isPieceUsed(piece) && !uses.isOrderUsed(order)
                && holds.lets(piece, order) && pieces.suits(piece, orders, order);
    }

    private void cutPiece(int piece, int set) {
        uses.use(piece, set);
        holds.drop(piece);
    }

    private void offerPairs() {
        matching.clearOffers();
        for (int piece = 0; piece < pieces.size(); piece++) {
            for (int order = 0; order < orders.size(); order++) {
                if (mayPair(piece, order)) {
                    matching.offer(piece, order, worthToday(piece, order));
                }
            }
        }
    }

    private int openOrders(int piece) {
        int open = 0;
        for (int order = 0; order < orders.size(); order++) {
            if (mayPair(piece, order)) {
                open |= 1 << order;
            }
        }
        return open;
    }

    private int bestSet(int piece) {
        int open = openOrders(piece);
        int best = 0;
        int bestCount = 0;
        int bestWorth = 0;
        // Upwards, and a later set must be better: so the lowest bits stay among equals.
        for (int set = 1; set <= open; set++) {
            int count = Integer.bitCount(set);
            boolean isCandidate = (set & ~open) == 0 && count >= bestCount && count <= MOST_FROM_ONE;
            if (isCandidate && orders.totalLength(set) <= pieces.lengthOf(piece)) {
                int worth = totalWorth(piece, set);
                if (count > bestCount || worth > bestWorth) {
                    best = set;
                    bestCount = count;
                    bestWorth = worth;
                }
            }
        }
        return best;
    }

    private int totalWorth(int piece, int set) {
        int total = 0;
        for (int order = 0; order < orders.size(); order++) {
            if ((set >> order & 1) == 1) {
                total += worthToday(piece, order);
            }
        }
        return total;
    }

    /** The sizes and grades of the pieces, or of the orders, by numbers. */
    private static final class Boards {
        private final int[] thicks;
        private final int[] wides;
        private final int[] lengths;
        private final int[] grades;
        private int count;

        Boards() {
            thicks = new int[MOST_BOARDS];
            wides = new int[MOST_BOARDS];
            lengths = new int[MOST_BOARDS];
            grades = new int[MOST_BOARDS];
        }

        int size() {
            return count;
        }

        boolean has(int number) {
            return number >= 0 && number < count;
        }

        boolean isFull() {
            return count >= MOST_BOARDS;
        }

        int add(int thick, int wide, int length, int grade) {
            int number = count;
            thicks[number] = thick;
            wides[number] = wide;
            lengths[number] = length;
            grades[number] = grade;
            count++;
            return number;
        }

        boolean suits(int own, Boards others, int other) {
            return grades[own] == others.grades[other] && thicks[own] == others.thicks[other]
                    && wides[own] >= others.wides[other] && lengths[own] >= others.lengths[other];
        }

        int sidesToCut(int own, Boards others, int other) {
            int wideCut = wides[own] == others.wides[other] ? 0 : 1;
            int lengthCut = lengths[own] == others.lengths[other] ? 0 : 1;
            return wideCut + lengthCut;
        }

        int lengthOf(int number) {
            return lengths[number];
        }

        int totalLength(int set) {
            int total = 0;
            for (int number = 0; number < count; number++) {
                if ((set >> number & 1) == 1) {
                    total += lengths[number];
                }
            }
            return total;
        }
    }

    /** Which orders each piece is used for: sets of orders as bits, 0 while a piece is free. */
    private static final class Uses {
        private final int[] ordersOfPiece;
        private int usedOrders;

        Uses() {
            ordersOfPiece = new int[MOST_BOARDS];
        }

        boolean isPieceUsed(int piece) {
            return ordersOfPiece[piece] != 0;
        }

        boolean isOrderUsed(int order) {
            return (usedOrders >> order & 1) == 1;
        }

        void use(int piece, int set) {
            ordersOfPiece[piece] = set;
            usedOrders |= set;
        }

        void free(int piece) {
            usedOrders &= ~ordersOfPiece[piece];
            ordersOfPiece[piece] = 0;
        }

        int orderAt(int piece, int i) {
            int ahead = 0;
            for (int order = 0; order < MOST_BOARDS; order++) {
                if ((ordersOfPiece[piece] >> order & 1) == 1) {
                    if (ahead == i) {
                        return order;
                    }
                    ahead++;
                }
            }
            return NONE;
        }
    }

    /** The reservations that hold today. */
    private static final class Holds {
        private final int[] orderOfPiece;
        private final int[] lastDay;
        private int heldOrders;

        Holds() {
            orderOfPiece = new int[MOST_BOARDS];
            lastDay = new int[MOST_BOARDS];
            for (int piece = 0; piece < MOST_BOARDS; piece++) {
                orderOfPiece[piece] = NONE;
            }
        }

        int orderHeldBy(int piece) {
            return orderOfPiece[piece];
        }

        boolean isPieceHeld(int piece) {
            return orderOfPiece[piece] != NONE;
        }

        boolean isOrderHeld(int order) {
            return (heldOrders >> order & 1) == 1;
        }

        boolean lets(int piece, int order) {
            return orderOfPiece[piece] == order || !isPieceHeld(piece) && !isOrderHeld(order);
        }

        void hold(int piece, int order, int day) {
            orderOfPiece[piece] = order;
            lastDay[piece] = day;
            heldOrders |= 1 << order;
        }

        void drop(int piece) {
            if (isPieceHeld(piece)) {
                heldOrders &= ~(1 << orderOfPiece[piece]);
                orderOfPiece[piece] = NONE;
            }
        }

        void dropBefore(int day) {
            for (int piece = 0; piece < MOST_BOARDS; piece++) {
                if (lastDay[piece] < day) {
                    drop(piece);
                }
            }
        }
    }

    /**
     * The best matching of the pairs that are offered, and its duals. A gain is the worth times
     * ONE_CENT, and 1 for the pair: so the greatest gain has the greatest sum, then the most pairs.
     */
    private static final class Matching {
        private static final int ONE_CENT = 16;
        private static final int SETS = 1 << MOST_BOARDS;

        private final int[] gains;
        /** Row r has for each set of orders the greatest gain of the last r pieces; row 0 stays 0. */
        private final int[] best;
        private final int[] chosen;
        private final int[] pieceDuals;
        private final int[] orderDuals;
        private int pieceCount;
        private int orderCount;
        private int pairs;
        private int worthSum;
        private boolean upToDate;

        Matching() {
            gains = new int[MOST_BOARDS * MOST_BOARDS];
            best = new int[(MOST_BOARDS + 1) * SETS];
            chosen = new int[MOST_BOARDS];
            pieceDuals = new int[MOST_BOARDS];
            orderDuals = new int[MOST_BOARDS];
        }

        void outdate() {
            upToDate = false;
        }

        boolean isUpToDate() {
            return upToDate;
        }

        int pairCount() {
            return pairs;
        }

        int bestSum() {
            return worthSum;
        }

        int chosenFor(int piece) {
            return chosen[piece];
        }

        int dualOfPiece(int piece) {
            return pieceDuals[piece];
        }

        int dualOfOrder(int order) {
            return orderDuals[order];
        }

        void clearOffers() {
            for (int pair = 0; pair < gains.length; pair++) {
                gains[pair] = 0;
            }
        }

        void offer(int piece, int order, int worth) {
            gains[pairIndex(piece, order)] = worth * ONE_CENT + 1;
        }

        /** Takes at most MOST_BOARDS pieces and orders. */
        void solve(int countOfPieces, int countOfOrders) {
            pieceCount = countOfPieces;
            orderCount = countOfOrders;
            fillBest();
            choose();
            prove();
            upToDate = true;
        }

        private void fillBest() {
            for (int row = 1; row <= pieceCount; row++) {
                System.arraycopy(best, (row - 1) * SETS, best, row * SETS, 1 << orderCount);
                for (int order = 0; order < orderCount; order++) {
                    int gain = gains[pairIndex(pieceCount - row, order)];
                    if (gain > 0) {
                        improveRow(row, order, gain);
                    }
                }
            }
        }

        private void improveRow(int row, int order, int gain) {
            int here = row * SETS;
            int withoutPiece = here - SETS;
            int bit = 1 << order;
            int sets = 1 << orderCount;
            for (int set = bit; set < sets; set = (set + 1) | bit) {
                int gainWith = gain + best[withoutPiece + set - bit];
                if (gainWith > best[here + set]) {
                    best[here + set] = gainWith;
                }
            }
        }

        private void choose() {
            int left = allOrders();
            for (int piece = 0; piece < pieceCount; piece++) {
                chosen[piece] = lowestOfBest(piece, left);
                if (chosen[piece] != NONE) {
                    left -= 1 << chosen[piece];
                }
            }
        }

        private int lowestOfBest(int piece, int left) {
            int here = (pieceCount - piece) * SETS;
            int withoutPiece = here - SETS;
            for (int order = 0; order < orderCount; order++) {
                int gain = gains[pairIndex(piece, order)];
                int bit = 1 << order;
                if (gain > 0 && (left & bit) != 0
                        && gain + best[withoutPiece + left - bit] == best[here + left]) {
                    return order;
                }
            }
            return NONE;
        }

        /** An order that is offered to no piece gets its 0 by itself: the best does not miss it. */
        private void prove() {
            int top = pieceCount * SETS + allOrders();
            pairs = best[top] % ONE_CENT;
            worthSum = best[top] / ONE_CENT;
            for (int order = 0; order < orderCount; order++) {
                orderDuals[order] = worthSum - best[top - (1 << order)] / ONE_CENT;
            }
            for (int piece = 0; piece < pieceCount; piece++) {
                int order = chosen[piece];
                pieceDuals[piece] = order == NONE
                        ? 0 : gains[pairIndex(piece, order)] / ONE_CENT - orderDuals[order];
            }
        }

        private int allOrders() {
            return (1 << orderCount) - 1;
        }
    }
}
