import java.util.function.IntSupplier;
import java.util.function.IntUnaryOperator;

/** Objects in the states that the tests of the edges need, and all that can be seen of an object. */
final class Scene {
    private Scene() {
    }

    /**
     * Day 6, cut 3, aging 2, for sale from 4 days on, the latest run is told by sum and duals.
     * Piece 0 is used (by run) for order 0, piece 1 reserved for order 1 up to day 8, piece 2 free,
     * piece 3 used (by several) for orders 4 and 5; order 2 is free, order 3 too, but none fits it.
     */
    static SurplusMatch busy() {
        SurplusMatch match = new SurplusMatch();
        match.rules(3, 2, 4);
        match.tick(3);
        for (int piece = 0; piece < 3; piece++) {
            match.piece(1, 6, 6, 0);
        }
        match.tick(2);
        match.piece(1, 6, 6, 0);
        int[][] orders = {{1, 5, 6, 0}, {1, 6, 5, 0}, {1, 6, 6, 0}, {2, 6, 6, 0}, {1, 5, 3, 0}, {1, 6, 3, 0}};
        for (int[] sizes : orders) {
            match.order(sizes[0], sizes[1], sizes[2], sizes[3]);
        }
        for (int piece = 0; piece < 4; piece++) {
            for (int order = 0; order < 6; order++) {
                if (match.fits(piece, order)) {
                    match.worth(piece, order, 100 + 10 * piece + order + (piece == order ? 30 : 0));
                }
            }
        }
        match.run();
        for (int piece = 1; piece < 4; piece++) {
            match.undo(piece);
        }
        match.reserve(1, 1, 8);
        match.several(3);
        match.tick(1);
        return match;
    }

    /** As busy, but an order came since the latest run. */
    static SurplusMatch stale() {
        SurplusMatch match = busy();
        match.order(1, 6, 6, 0);
        return match;
    }

    /** Ten pieces and ten orders of just the same sizes, piece p worth 10 p + o for order o. */
    static SurplusMatch full() {
        SurplusMatch match = Check.alike(10, 10);
        for (int piece = 0; piece < 10; piece++) {
            for (int order = 0; order < 10; order++) {
                match.worth(piece, order, 10 * piece + order);
            }
        }
        return match;
    }

    /** On that day, with one piece that came on day 0, and one order that it fits. */
    static SurplusMatch onDay(int day) {
        SurplusMatch match = Check.alike(1, 1);
        match.worth(0, 0, 1_000_000);
        goTo(match, 0, day);
        return match;
    }

    static void goTo(SurplusMatch match, int today, int day) {
        for (int left = day - today; left > 0; left -= 1000) {
            match.tick(Math.min(left, 1000));
        }
    }

    /** Every answer that can be had without changing anything. */
    static String told(SurplusMatch match) {
        StringBuilder text = new StringBuilder();
        int pieces = count(match, 0);
        int orders = count(match, 1);
        text.append(pieces).append(" pieces, ").append(orders).append(" orders, sum ").append(match.sum());
        for (int piece = 0; piece < pieces; piece++) {
            int p = piece;
            text.append("\n  piece ").append(p).append(": reserved ").append(match.reserved(p));
            text.append(", dual ").append(answer(() -> match.dual(0, p))).append(", used for");
            int used = match.orderOf(p, 0);
            for (int i = 1; i <= 10 && used >= 0; i++) {
                text.append(' ').append(used);
                used = match.orderOf(p, i);
            }
            text.append(", worth");
            for (int order = 0; order < orders; order++) {
                int o = order;
                text.append(' ').append(match.fits(p, o) ? answer(() -> match.net(p, o)) : "-");
            }
        }
        text.append("\n  orders' duals");
        for (int order = 0; order < orders; order++) {
            int o = order;
            text.append(' ').append(answer(() -> match.dual(1, o)));
        }
        return text.append(", sale ").append(sales(match)).toString();
    }

    /** What comes of it: shows the day, the days of the reservations, the worths told, who has room. */
    static String future(SurplusMatch match) {
        StringBuilder text = new StringBuilder();
        int pieces = count(match, 0);
        for (int k = 0; k < 3; k++) {
            text.append("\n  day ").append(answer(() -> match.tick(1))).append(", reserved");
            for (int piece = 0; piece < pieces; piece++) {
                text.append(' ').append(match.reserved(piece));
            }
            text.append(", sale ").append(sales(match));
        }
        match.rules(0, 0, 0);
        text.append("\n  piece ").append(answer(() -> match.piece(1, 6, 6, 0)));
        text.append(", order ").append(answer(() -> match.order(1, 1, 1, 0)));
        text.append(", run ").append(match.run()).append('\n');
        return text.append(told(match)).toString();
    }

    private static String sales(SurplusMatch match) {
        StringBuilder text = new StringBuilder();
        int piece = match.sale(0);
        for (int i = 1; i <= 10 && piece >= 0; i++) {
            text.append(piece).append(' ');
            piece = match.sale(i);
        }
        return text.toString();
    }

    private static int count(SurplusMatch match, int side) {
        int k = 0;
        while (k < 20 && !answer(k, at -> match.dual(side, at)).equals("IndexOutOfBoundsException")) {
            k++;
        }
        return k;
    }

    private static String answer(int k, IntUnaryOperator call) {
        return answer(() -> call.applyAsInt(k));
    }

    static String answer(IntSupplier call) {
        try {
            return String.valueOf(call.getAsInt());
        } catch (RuntimeException e) {
            return e.getClass().getSimpleName();
        }
    }
}
