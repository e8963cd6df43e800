/** What the tests share: compares answers and refusals, counts those that are not due, tells them. */
final class Check {
    private static int made = 0;
    private static int wrong = 0;
    private static String sentence = "";

    private Check() {
    }

    /** The test of one sentence of the document: what is wrong in it is told with the sentence. */
    static void sentence(String words, Runnable test) {
        int madeAhead = made;
        sentence = "[" + words + "] ";
        test.run();
        if (made == madeAhead) {
            tell("the test", "no check", "one at least");
        }
        sentence = "";
    }

    static void is(String what, long got, long due) {
        made++;
        if (got != due) {
            tell(what, String.valueOf(got), String.valueOf(due));
        }
    }

    static void is(String what, boolean got, boolean due) {
        is(what, got ? 1 : 0, due ? 1 : 0);
    }

    static void is(String what, String got, String due) {
        made++;
        if (!got.equals(due)) {
            tell(what, got, due);
        }
    }

    static void refused(String what, Class<?> due, Runnable call) {
        made++;
        try {
            call.run();
        } catch (RuntimeException e) {
            if (e.getClass() != due) {
                tell(what, e.toString(), due.getSimpleName());
            }
            return;
        }
        tell(what, "an answer", due.getSimpleName());
    }

    static void noIndex(String what, Runnable call) {
        refused(what, IndexOutOfBoundsException.class, call);
    }

    static void noTurn(String what, Runnable call) {
        refused(what, IllegalStateException.class, call);
    }

    static void noRange(String what, Runnable call) {
        refused(what, IllegalArgumentException.class, call);
    }

    static void noMeaning(String what, Runnable call) {
        refused(what, UnsupportedOperationException.class, call);
    }

    /** So many pieces and orders of just the same sizes: every piece fits every order. */
    static SurplusMatch alike(int pieces, int orders) {
        SurplusMatch match = new SurplusMatch();
        for (int k = 0; k < pieces; k++) {
            match.piece(1, 5, 5, 0);
        }
        for (int k = 0; k < orders; k++) {
            match.order(1, 5, 5, 0);
        }
        return match;
    }

    /** One piece, and orders of these lengths, that it fits but for the longer ones. */
    static SurplusMatch ofLengths(int piece, int... orders) {
        SurplusMatch match = new SurplusMatch();
        match.piece(1, 5, piece, 0);
        for (int length : orders) {
            match.order(1, 5, length, 0);
        }
        return match;
    }

    static void worths(SurplusMatch match, int[][] cents) {
        for (int piece = 0; piece < cents.length; piece++) {
            for (int order = 0; order < cents[piece].length; order++) {
                match.worth(piece, order, cents[piece][order]);
            }
        }
    }

    /** Checks which orders a piece is used for, and that there are no more. */
    static void used(String what, SurplusMatch match, int piece, int... orders) {
        for (int i = 0; i < orders.length; i++) {
            is(what + ": orderOf(" + piece + ", " + i + ")", match.orderOf(piece, i), orders[i]);
        }
        is(what + ": no more of " + piece, match.orderOf(piece, orders.length), -1);
    }

    /** Checks which pieces are for sale, in this order, and that there are no more. */
    static void forSale(String what, SurplusMatch match, int... pieces) {
        for (int i = 0; i < pieces.length; i++) {
            is(what + ": sale(" + i + ")", match.sale(i), pieces[i]);
        }
        is(what + ": no more for sale", match.sale(pieces.length), -1);
    }

    static void end() {
        System.out.println(made + " checks, " + wrong + " wrong");
        if (wrong != 0 || made == 0) {
            System.exit(1);
        }
    }

    private static void tell(String what, String got, String due) {
        wrong++;
        if (wrong <= 50) {
            System.out.println(sentence + what + ": got " + got + ", due is " + due);
        }
    }
}
