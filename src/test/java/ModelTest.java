import java.util.function.IntSupplier;

/** All promises together: long runs of calls, the class held against the model call by call. */
public final class ModelTest {
    private static final int RUNS = 4000;

    private static final int LAST_CALL = 512;

    /** So many, and the looks behind them, stay below the last call that an object is used for. */
    private static final int CALLS = 300;
    private static final int FIRST_SINGLE_KIND = 14;
    private static final int SINGLE_KINDS = 16;
    private static final int[] ODD = {Integer.MIN_VALUE, -1, 10, 1000, 1001, 9999, 10_000, 1_000_001, Integer.MAX_VALUE};

    /** The most pieces and orders of a run: few enough for a model that tries everything. */
    private static final int[][] SHAPES = {{6, 6}, {3, 10}, {10, 3}, {4, 7}, {7, 4}, {2, 2}, {1, 10}};

    private long seed;
    private final int mostPieces;
    private final int mostOrders;
    private final int sizes;
    private final int cents;
    private final int days;
    private final SurplusMatch match = new SurplusMatch();
    private final Model model = new Model();
    private int calls = 0;

    private ModelTest(int run) {
        seed = run * 7919L + 17;
        mostPieces = SHAPES[run % SHAPES.length][0];
        mostOrders = SHAPES[run % SHAPES.length][1];
        sizes = 1 + run % 4 * 2;
        cents = new int[] {1, 2, 4, 30, 1_000_001}[run % 5];
        days = new int[] {1, 3, 40}[run % 3];
    }

    public static void main(String[] args) {
        for (int run = 0; run < RUNS; run++) {
            ModelTest test = new ModelTest(run);
            test.calls(run);
            Check.is("calls of run " + run, test.calls, LAST_CALL);
        }
        Check.end();
    }

    private void calls(int run) {
        boolean isFilledFirst = run % 4 != 0;
        for (int k = 0; isFilledFirst && k < 20; k++) {
            board("run " + run + ", filling", k % 2 == 0);
        }
        tellAll("run " + run + ", filling");
        for (int k = 0; calls < CALLS; k++) {
            int a = number(mostPieces);
            int b = number(mostOrders);
            int kind = next(36);
            String what = "run " + run + ", call " + k + ", kind " + kind + " (" + a + ", " + b + ")";
            one(what, kind, a, b);
        }
        for (int k = 0; k < Math.max(mostPieces, mostOrders); k++) {
            look("run " + run + ", looks, " + k, k);
        }
        while (calls < LAST_CALL) {
            int kind = FIRST_SINGLE_KIND + next(SINGLE_KINDS);
            one("run " + run + ", at its end, kind " + kind, kind, number(mostPieces), number(mostOrders));
        }
    }

    private void one(String what, int kind, int a, int b) {
        switch (kind) {
            case 0, 1, 2 -> board(what, true);
            case 3, 4, 5 -> board(what, false);
            case 6, 7, 8, 9, 10 -> tell(what, a, b, odd(next(cents)));
            case 11 -> tellAll(what);
            case 12, 13 -> {
                int c = odd(next(3));
                int d = next(3) == 0 ? odd(next(3)) : 0;
                int e = odd(next(2 * days));
                same(what, () -> none(() -> match.rules(c, d, e)), () -> none(() -> model.rules(c, d, e)));
            }
            case 14, 15 -> same(what, () -> match.fits(a, b) ? 1 : 0, () -> model.fits(a, b) ? 1 : 0);
            case 16, 17 -> same(what, () -> match.net(a, b), () -> model.net(a, b));
            case 18, 19, 20 -> same(what, match::run, model::run);
            case 21 -> same(what, match::sum, model::sum);
            case 22, 23 -> same(what, () -> match.several(a), () -> model.several(a));
            case 24, 25, 26 -> {
                int day = odd(model.today() - 1 + next(2 * days + 2));
                same(what, () -> none(() -> match.reserve(a, b, day)), () -> none(() -> model.reserve(a, b, day)));
            }
            case 27, 28, 29 -> same(what, () -> none(() -> match.undo(a)), () -> none(() -> model.undo(a)));
            case 30 -> undoAll(what);
            case 31, 32 -> {
                int c = odd(1 + next(days));
                same(what, () -> match.tick(c), () -> model.tick(c));
            }
            default -> look(what, kind == 33 ? b : a);
        }
    }

    private void tell(String what, int piece, int order, int worth) {
        same(what, () -> none(() -> match.worth(piece, order, worth)), () -> none(() -> model.worth(piece, order, worth)));
    }

    private void tellAll(String what) {
        for (int piece = 0; piece < model.pieceCount(); piece++) {
            for (int order = 0; order < model.orderCount(); order++) {
                tell(what, piece, order, next(cents));
            }
        }
    }

    private void undoAll(String what) {
        for (int k = 0; k < model.pieceCount(); k++) {
            int piece = k;
            same(what, () -> none(() -> match.undo(piece)), () -> none(() -> model.undo(piece)));
        }
    }

    private void board(String what, boolean isPiece) {
        int thick = odd(1 + next(8) / 7);
        int wide = odd(1 + next(sizes) + (isPiece ? next(sizes) : 0));
        int length = odd(1 + next(sizes) * (isPiece ? 3 : 1));
        int grade = odd(next(8) / 7);
        if (isPiece && hasRoom(model.pieceCount(), mostPieces)) {
            same(what, () -> match.piece(thick, wide, length, grade), () -> model.piece(thick, wide, length, grade));
        } else if (!isPiece && hasRoom(model.orderCount(), mostOrders)) {
            same(what, () -> match.order(thick, wide, length, grade), () -> model.order(thick, wide, length, grade));
        }
    }

    private static boolean hasRoom(int count, int most) {
        return count < most || count == 10;
    }

    private void look(String what, int k) {
        for (int i = -1; i < 7; i++) {
            int at = i;
            same(what + " orderOf", () -> match.orderOf(k, at), () -> model.orderOf(k, at));
        }
        for (int side = -1; side <= 2; side++) {
            int at = side;
            same(what + " dual", () -> match.dual(at, k), () -> model.dual(at, k));
        }
        same(what + " reserved", () -> match.reserved(k), () -> model.reserved(k));
        same(what + " sale", () -> match.sale(k), () -> model.sale(k));
        same(what + " sum", match::sum, model::sum);
    }

    private void same(String what, IntSupplier got, IntSupplier due) {
        calls++;
        String gotText = answer(got);
        String dueText = answer(due);
        Check.is(what + ": " + gotText + ", due is " + dueText, gotText.equals(dueText), true);
    }

    private static String answer(IntSupplier call) {
        try {
            return String.valueOf(call.getAsInt());
        } catch (RuntimeException e) {
            return e.getClass().getName();
        }
    }

    private static int none(Runnable call) {
        call.run();
        return 0;
    }

    private int number(int most) {
        return next(25) == 0 ? ODD[next(ODD.length)] : next(most + (next(10) == 0 ? 1 : 0));
    }

    private int odd(int usual) {
        return next(40) == 0 ? ODD[next(ODD.length)] : usual;
    }

    private int next(int bound) {
        seed = seed * 6364136223846793005L + 1442695040888963407L;
        return (int) ((seed >>> 33) % bound);
    }
}
