import java.util.List;
import java.util.function.Consumer;
import java.util.function.Supplier;

/**
 * Every refusal of every call, alone and where several reasons meet (the first by index, turn,
 * range, meaning is the one thrown); and that a refused call leaves everything as it was.
 */
public final class EdgeRefusalsTest {
    private static final int LEAST = Integer.MIN_VALUE;
    private static final int MOST = Integer.MAX_VALUE;

    private static final Class<?> INDEX = IndexOutOfBoundsException.class;
    private static final Class<?> TURN = IllegalStateException.class;
    private static final Class<?> RANGE = IllegalArgumentException.class;
    private static final Class<?> MEANING = UnsupportedOperationException.class;

    /** In the busy scene there are pieces 0 .. 3 and orders 0 .. 5; bits would come round at 32. */
    private static final int[] NO_PIECE = {-1, 4, 10, 32, LEAST, MOST};
    private static final int[] NO_ORDER = {-1, 6, 10, 32, LEAST, MOST};
    private static final int[] NO_SIZE = {0, 1001, -1, LEAST, MOST};
    private static final int[] NO_GRADE = {-1, 8, LEAST, MOST};
    private static final int[] NO_CENTS = {-1, 1_000_001, LEAST, MOST};
    private static final int[] NO_OFF = {-1, 1001, LEAST, MOST};
    private static final int[] NO_SALE_AGE = {-1, 10_000, LEAST, MOST};
    private static final int[] NO_DAYS = {0, 1001, -1, LEAST, MOST};
    private static final int[] NOT_FROM_ZERO = {-1, LEAST};
    private static final int MISFIT = 3;

    public static void main(String[] args) {
        Check.sentence("piece: range: sizes, grade", EdgeRefusalsTest::pieceRange);
        Check.sentence("piece: meaning: there are 10", EdgeRefusalsTest::pieceMeaning);
        Check.sentence("order: likewise, range", EdgeRefusalsTest::orderRange);
        Check.sentence("order: likewise, meaning", EdgeRefusalsTest::orderMeaning);
        Check.sentence("worth: index: no such piece or order", EdgeRefusalsTest::worthIndex);
        Check.sentence("worth: range: it", EdgeRefusalsTest::worthRange);
        Check.sentence("worth: meaning: the piece does not fit", EdgeRefusalsTest::worthMeaning);
        Check.sentence("rules: range: they are not so", EdgeRefusalsTest::rulesRange);
        Check.sentence("fits: index: no such piece or order", EdgeRefusalsTest::fitsIndex);
        Check.sentence("net: index: no such piece or order", EdgeRefusalsTest::netIndex);
        Check.sentence("net: meaning: it does not fit", EdgeRefusalsTest::netMeaning);
        Check.sentence("dual: index: no such side, piece or order", EdgeRefusalsTest::dualIndex);
        Check.sentence("dual: turn: no run() since the last piece or order came", EdgeRefusalsTest::dualTurn);
        Check.sentence("several: index: no such piece", EdgeRefusalsTest::severalIndex);
        Check.sentence("several: turn: it is used, or reserved", EdgeRefusalsTest::severalTurn);
        Check.sentence("orderOf: index: no such piece, or i is below 0", EdgeRefusalsTest::orderOfIndex);
        Check.sentence("reserve: index, turn, range, meaning", EdgeRefusalsTest::reserveAll);
        Check.sentence("reserved: index: no such piece", EdgeRefusalsTest::reservedIndex);
        Check.sentence("undo: index: no such piece", EdgeRefusalsTest::undoIndex);
        Check.sentence("undo: turn: it is not used", EdgeRefusalsTest::undoTurn);
        Check.sentence("sale: index: i is below 0", EdgeRefusalsTest::saleIndex);
        Check.sentence("tick: range: the days", EdgeRefusalsTest::tickDays);
        Check.sentence("tick: range: beyond 9,999", EdgeRefusalsTest::tickBeyond);
        Check.end();
    }

    /**
     * Makes the call on objects of that scene: refused, and they stay as one without the call.
     * Two of them, for an object is used for 512 calls at most.
     */
    private static void refused(String what, Class<?> due, Supplier<SurplusMatch> scene, Consumer<SurplusMatch> call) {
        SurplusMatch now = scene.get();
        Check.refused(what, due, () -> call.accept(now));
        Check.is(what + ": all that is told", Scene.told(now), Scene.told(scene.get()));
        SurplusMatch later = scene.get();
        Check.refused(what, due, () -> call.accept(later));
        Check.is(what + ": all that comes of it", Scene.future(later), Scene.future(scene.get()));
    }

    private static void busy(String what, Class<?> due, Consumer<SurplusMatch> call) {
        refused(what, due, Scene::busy, call);
    }

    private static void pieceRange() {
        wrongBoards("piece", Scene::busy, (match, sizes) -> match.piece(sizes[0], sizes[1], sizes[2], sizes[3]));
        wrongBoards("piece", SurplusMatch::new, (match, sizes) -> match.piece(sizes[0], sizes[1], sizes[2], sizes[3]));
    }

    private static void pieceMeaning() {
        refused("the eleventh piece", MEANING, Scene::full, match -> match.piece(1, 1, 1, 0));
        refused("the eleventh, the most", MEANING, Scene::full, match -> match.piece(1000, 1000, 1000, 7));
        wrongBoards("range ahead of meaning, piece", Scene::full,
                (match, sizes) -> match.piece(sizes[0], sizes[1], sizes[2], sizes[3]));
    }

    private static void orderRange() {
        wrongBoards("order", Scene::busy, (match, sizes) -> match.order(sizes[0], sizes[1], sizes[2], sizes[3]));
        wrongBoards("order", SurplusMatch::new, (match, sizes) -> match.order(sizes[0], sizes[1], sizes[2], sizes[3]));
    }

    private static void orderMeaning() {
        refused("the eleventh order", MEANING, Scene::full, match -> match.order(1, 1, 1, 0));
        refused("the eleventh, the most", MEANING, Scene::full, match -> match.order(1000, 1000, 1000, 7));
        wrongBoards("range ahead of meaning, order", Scene::full,
                (match, sizes) -> match.order(sizes[0], sizes[1], sizes[2], sizes[3]));
    }

    private interface BoardCall {
        void on(SurplusMatch match, int[] sizes);
    }

    private static void wrongBoards(String what, Supplier<SurplusMatch> scene, BoardCall call) {
        String[] names = {"thick", "wide", "length", "grade"};
        for (int k = 0; k < 4; k++) {
            for (int wrong : k == 3 ? NO_GRADE : NO_SIZE) {
                int[] sizes = {1, 1, 1, 0};
                sizes[k] = wrong;
                refused(what + " of " + names[k] + " " + wrong, RANGE, scene, match -> call.on(match, sizes));
            }
        }
        refused(what + ", all wrong", RANGE, scene, match -> call.on(match, new int[] {0, 1001, 0, 8}));
    }

    private static void worthIndex() {
        for (int cents : new int[] {5, -1, 1_000_001}) {
            wrongPairs("worth of " + cents + " cents", (match, piece, order) -> match.worth(piece, order, cents));
        }
    }

    private static void worthRange() {
        for (int cents : NO_CENTS) {
            busy("worth of free ones " + cents, RANGE, match -> match.worth(2, 2, cents));
            busy("worth of used ones " + cents, RANGE, match -> match.worth(0, 0, cents));
            busy("worth, range ahead of meaning " + cents, RANGE, match -> match.worth(2, MISFIT, cents));
        }
    }

    private static void worthMeaning() {
        for (int cents : new int[] {0, 1, 1_000_000}) {
            busy("worth of a free misfit", MEANING, match -> match.worth(2, MISFIT, cents));
            busy("worth of a used misfit", MEANING, match -> match.worth(0, MISFIT, cents));
        }
    }

    private static void rulesRange() {
        for (int wrong : NO_OFF) {
            busy("cut " + wrong, RANGE, match -> match.rules(wrong, 1, 1));
            busy("aging " + wrong, RANGE, match -> match.rules(1, wrong, 1));
            busy("cut and aging " + wrong, RANGE, match -> match.rules(wrong, wrong, 1));
        }
        for (int wrong : NO_SALE_AGE) {
            busy("sale " + wrong, RANGE, match -> match.rules(1, 1, wrong));
            busy("cut and sale " + wrong, RANGE, match -> match.rules(1001, 1, wrong));
            busy("aging and sale " + wrong, RANGE, match -> match.rules(1, -1, wrong));
            busy("all " + wrong, RANGE, match -> match.rules(1001, 1001, wrong));
        }
    }

    private static void fitsIndex() {
        wrongPairs("fits", (match, piece, order) -> match.fits(piece, order));
    }

    private static void netIndex() {
        wrongPairs("net", (match, piece, order) -> match.net(piece, order));
    }

    private static void netMeaning() {
        for (int piece = 0; piece < 4; piece++) {
            int p = piece;
            busy("net of piece " + p + " and a misfit", MEANING, match -> match.net(p, MISFIT));
        }
    }

    private interface PairCall {
        void on(SurplusMatch match, int piece, int order);
    }

    private static void wrongPairs(String what, PairCall call) {
        for (int piece : NO_PIECE) {
            for (int order : new int[] {0, 1, 2, MISFIT, 5}) {
                busy(what + ", no piece " + piece, INDEX, match -> call.on(match, piece, order));
            }
            for (int order : NO_ORDER) {
                busy(what + ", neither " + piece + " nor " + order, INDEX, match -> call.on(match, piece, order));
            }
        }
        for (int order : NO_ORDER) {
            for (int piece = 0; piece < 4; piece++) {
                int p = piece;
                busy(what + ", no order " + order, INDEX, match -> call.on(match, p, order));
            }
        }
    }

    private static void dualIndex() {
        for (Supplier<SurplusMatch> scene : List.<Supplier<SurplusMatch>>of(Scene::busy, Scene::stale)) {
            for (int side : new int[] {-1, 2, 32, LEAST, MOST}) {
                for (int k : new int[] {0, 3, -1, 9}) {
                    refused("side " + side + " of " + k, INDEX, scene, match -> match.dual(side, k));
                }
            }
            for (int k : new int[] {-1, 4, 5, 10, 32, LEAST, MOST}) {
                refused("dual of piece " + k, INDEX, scene, match -> match.dual(0, k));
            }
            for (int k : new int[] {-1, 7, 10, 32, LEAST, MOST}) {
                refused("dual of order " + k, INDEX, scene, match -> match.dual(1, k));
            }
        }
        busy("dual of order 6", INDEX, match -> match.dual(1, 6));
    }

    private static void dualTurn() {
        for (int piece = 0; piece < 4; piece++) {
            int p = piece;
            refused("an order came, piece " + p, TURN, Scene::stale, match -> match.dual(0, p));
        }
        for (int order = 0; order < 7; order++) {
            int o = order;
            refused("an order came, order " + o, TURN, Scene::stale, match -> match.dual(1, o));
        }
        Supplier<SurplusMatch> pieceCame = () -> {
            SurplusMatch match = Scene.busy();
            match.piece(1, 1, 1, 0);
            return match;
        };
        refused("a piece came, that piece", TURN, pieceCame, match -> match.dual(0, 4));
        refused("a piece came, order 0", TURN, pieceCame, match -> match.dual(1, 0));
        refused("no run at all, piece 9", TURN, Scene::full, match -> match.dual(0, 9));
        refused("no run at all, order 9", TURN, Scene::full, match -> match.dual(1, 9));
    }

    private static void severalIndex() {
        for (int piece : NO_PIECE) {
            busy("several of " + piece, INDEX, match -> match.several(piece));
        }
    }

    private static void severalTurn() {
        busy("used by run", TURN, match -> match.several(0));
        busy("reserved", TURN, match -> match.several(1));
        busy("used by several", TURN, match -> match.several(3));
    }

    private static void orderOfIndex() {
        for (int piece : NO_PIECE) {
            for (int i : new int[] {0, 1, MOST, -1, LEAST}) {
                busy("orderOf " + piece + ", " + i, INDEX, match -> match.orderOf(piece, i));
            }
        }
        for (int i : NOT_FROM_ZERO) {
            for (int piece = 0; piece < 4; piece++) {
                int p = piece;
                busy("orderOf " + p + ", " + i, INDEX, match -> match.orderOf(p, i));
            }
        }
    }

    /** All pieces, orders and days of the busy scene against one another. */
    private static void reserveAll() {
        int[] pieces = {0, 1, 2, 3, -1, 4, 32, LEAST, MOST};
        int[] orders = {0, 1, 2, MISFIT, 4, 5, -1, 6, 32, LEAST, MOST};
        int[] days = {6, 9999, 5, 0, -1, 10_000, LEAST, MOST};
        int taken = 0;
        for (int piece : pieces) {
            for (int order : orders) {
                for (int day : days) {
                    String what = "reserve(" + piece + ", " + order + ", " + day + ")";
                    Class<?> due = dueOfReserve(piece, order, day);
                    if (due == null) {
                        SurplusMatch match = Scene.busy();
                        match.reserve(piece, order, day);
                        Check.is(what, match.reserved(piece), order);
                        taken++;
                    } else {
                        busy(what, due, match -> match.reserve(piece, order, day));
                    }
                }
            }
        }
        Check.is("piece 2 for order 2, today or the last day", taken, 2);
    }

    private static Class<?> dueOfReserve(int piece, int order, int day) {
        if (piece < 0 || piece > 3 || order < 0 || order > 5) {
            return INDEX;
        }
        boolean isPieceFree = piece == 2;
        boolean isOrderFree = order == 2 || order == MISFIT;
        if (!isPieceFree || !isOrderFree) {
            return TURN;
        }
        if (day < 6 || day > 9999) {
            return RANGE;
        }
        return order == MISFIT ? MEANING : null;
    }

    private static void reservedIndex() {
        for (int piece : NO_PIECE) {
            busy("reserved of " + piece, INDEX, match -> match.reserved(piece));
        }
    }

    private static void undoIndex() {
        for (int piece : NO_PIECE) {
            busy("undo of " + piece, INDEX, match -> match.undo(piece));
        }
    }

    private static void undoTurn() {
        busy("reserved, not used", TURN, match -> match.undo(1));
        busy("free", TURN, match -> match.undo(2));
        Supplier<SurplusMatch> undone = () -> {
            SurplusMatch match = Scene.busy();
            match.undo(0);
            match.undo(3);
            return match;
        };
        refused("undone, run", TURN, undone, match -> match.undo(0));
        refused("undone, several", TURN, undone, match -> match.undo(3));
    }

    private static void saleIndex() {
        for (int i : NOT_FROM_ZERO) {
            busy("sale " + i, INDEX, match -> match.sale(i));
            refused("sale " + i + " of none", INDEX, SurplusMatch::new, match -> match.sale(i));
        }
    }

    private static void tickDays() {
        for (int days : NO_DAYS) {
            busy("tick " + days, RANGE, match -> match.tick(days));
            refused("tick " + days + " of none", RANGE, SurplusMatch::new, match -> match.tick(days));
        }
    }

    private static void tickBeyond() {
        refused("1,000 from day 9,000", RANGE, () -> reservedOnDay(9000), match -> match.tick(1000));
        refused("2 from day 9,998", RANGE, () -> reservedOnDay(9998), match -> match.tick(2));
        refused("1 from day 9,999", RANGE, () -> reservedOnDay(9999), match -> match.tick(1));
        for (int days : NO_DAYS) {
            refused("both wrong, " + days, RANGE, () -> reservedOnDay(9999), match -> match.tick(days));
        }
    }

    private static SurplusMatch reservedOnDay(int day) {
        SurplusMatch match = Scene.onDay(day);
        match.reserve(0, 0, 9999);
        return match;
    }
}
