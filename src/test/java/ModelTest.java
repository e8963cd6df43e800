import java.util.function.IntSupplier;

/** All promises together: long runs of calls, the class held against the model call by call. */
public final class ModelTest {
    private static final int RUNS = 1500;
    private static final int CALLS = 200;
    private static final int[] ODD = {Integer.MIN_VALUE, -1, 10, 1000, 1001, 9999, 10_000, 1_000_001, Integer.MAX_VALUE};

    private long seed;
    private final int boards;
    private final int sizes;
    private final int cents;
    private final int days;
    private final SurplusMatch match = new SurplusMatch();
    private final Model model = new Model();

    private ModelTest(int run) {
        seed = run * 7919L + 17;
        boards = 1 + run % 6;
        sizes = 1 + run % 4 * 2;
        cents = new int[] {1, 2, 4, 30, 1_000_001}[run % 5];
        days = new int[] {1, 3, 40}[run % 3];
    }

    public static void main(String[] args) {
        for (int run = 0; run < RUNS; run++) {
            new ModelTest(run).calls(run);
        }
        Check.end();
    }

    private void calls(int run) {
        for (int k = 0; k < CALLS; k++) {
            int a = number();
            int b = number();
            int kind = next(40);
            String what = "run " + run + ", call " + k + ", kind " + kind + " (" + a + ", " + b + ")";
            one(what, kind, a, b);
        }
        for (int p = -1; p <= boards; p++) {
            look("run " + run + ", at its end, " + p, p);
        }
    }

    private void one(String what, int kind, int a, int b) {
        switch (kind) {
            case 0, 1, 2 -> board(what, true);
            case 3, 4, 5 -> board(what, false);
            case 6, 7, 8, 9, 10, 11, 12 -> {
                int c = odd(next(cents));
                same(what, () -> none(() -> match.worth(a, b, c)), () -> none(() -> model.worth(a, b, c)));
            }
            case 13 -> {
                int c = odd(next(3));
                int d = odd(next(3));
                int e = odd(next(2 * days));
                same(what, () -> none(() -> match.rules(c, d, e)), () -> none(() -> model.rules(c, d, e)));
            }
            case 14, 15 -> same(what, () -> match.fits(a, b) ? 1 : 0, () -> model.fits(a, b) ? 1 : 0);
            case 16, 17 -> same(what, () -> match.net(a, b), () -> model.net(a, b));
            case 18, 19, 20 -> same(what, match::run, model::run);
            case 21 -> same(what, match::sum, model::sum);
            case 22, 23 -> same(what, () -> match.several(a), () -> model.several(a));
            case 24, 25, 26 -> {
                int day = odd(model.today() - 1 + next(2 * days + 2));
                same(what, () -> none(() -> match.reserve(a, b, day)), () -> none(() -> model.reserve(a, b, day)));
            }
            case 27, 28, 29, 30 -> same(what, () -> none(() -> match.undo(a)), () -> none(() -> model.undo(a)));
            case 31, 32 -> {
                int c = odd(1 + next(days));
                same(what, () -> match.tick(c), () -> model.tick(c));
            }
            default -> look(what, a);
        }
    }

    private void board(String what, boolean isPiece) {
        int thick = odd(1 + next(8) / 7);
        int wide = odd(1 + next(sizes));
        int length = odd(1 + next(sizes * (isPiece ? 2 : 1)));
        int grade = odd(next(8) / 7);
        if (isPiece && (model.pieceCount() < boards || next(20) == 0 && model.pieceCount() < 6)) {
            same(what, () -> match.piece(thick, wide, length, grade), () -> model.piece(thick, wide, length, grade));
        } else if (!isPiece && (model.orderCount() < boards || next(20) == 0 && model.orderCount() < 6)) {
            same(what, () -> match.order(thick, wide, length, grade), () -> model.order(thick, wide, length, grade));
        }
    }

    private void look(String what, int k) {
        for (int i = -1; i < 7; i++) {
            int at = i;
            same(what + " orderOf", () -> match.orderOf(k, at), () -> model.orderOf(k, at));
        }
        for (int side = -1; side <= 2; side++) {
            int at = side;
            same(what + " dual", () -> match.dual(at, k), () -> model.dual(at, k));
        }
        same(what + " reserved", () -> match.reserved(k), () -> model.reserved(k));
        same(what + " sale", () -> match.sale(k), () -> model.sale(k));
        same(what + " sum", match::sum, model::sum);
    }

    private static void same(String what, IntSupplier got, IntSupplier due) {
        String gotText = answer(got);
        String dueText = answer(due);
        Check.is(what + ": " + gotText + ", due is " + dueText, gotText.equals(dueText), true);
    }

    private static String answer(IntSupplier call) {
        try {
            return String.valueOf(call.getAsInt());
        } catch (RuntimeException e) {
            return e.getClass().getName();
        }
    }

    private static int none(Runnable call) {
        call.run();
        return 0;
    }

    private int number() {
        return next(25) == 0 ? ODD[next(ODD.length)] : next(boards + (next(10) == 0 ? 1 : 0));
    }

    private int odd(int usual) {
        return next(40) == 0 ? ODD[next(ODD.length)] : usual;
    }

    private int next(int bound) {
        seed = seed * 6364136223846793005L + 1442695040888963407L;
        return (int) ((seed >>> 33) % bound);
    }
}
