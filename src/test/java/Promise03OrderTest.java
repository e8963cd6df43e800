/** Promise 3: one more order and its number; sizes, grade, ten at most. */
public final class Promise03OrderTest {
    public static void main(String[] args) {
        takesEdges();
        refusesRange();
        refusesTheEleventh();
        Check.end();
    }

    private static void takesEdges() {
        SurplusMatch match = new SurplusMatch();
        Check.is("least", match.order(1, 1, 1, 0), 0);
        Check.is("most", match.order(1000, 1000, 1000, 7), 1);
        match.piece(1000, 1000, 1000, 7);
        Check.is("least order kept", match.fits(0, 0), false);
        Check.is("most order kept", match.fits(0, 1), true);
    }

    private static void refusesRange() {
        SurplusMatch match = new SurplusMatch();
        match.piece(1, 1, 1, 0);
        int[] bad = {0, -1, 1001, Integer.MIN_VALUE, Integer.MAX_VALUE};
        for (int size : bad) {
            Check.noRange("thick " + size, () -> match.order(size, 1, 1, 0));
            Check.noRange("wide " + size, () -> match.order(1, size, 1, 0));
            Check.noRange("length " + size, () -> match.order(1, 1, size, 0));
        }
        for (int grade : new int[] {-1, 8, Integer.MIN_VALUE, Integer.MAX_VALUE}) {
            Check.noRange("grade " + grade, () -> match.order(1, 1, 1, grade));
        }
        Check.noIndex("none came", () -> match.fits(0, 0));
        Check.is("the first number", match.order(1, 1, 1, 0), 0);
    }

    private static void refusesTheEleventh() {
        SurplusMatch match = new SurplusMatch();
        for (int k = 0; k < 10; k++) {
            Check.is("number", match.order(1, 1, 1, 0), k);
        }
        Check.noMeaning("the eleventh", () -> match.order(1, 1, 1, 0));
        Check.noRange("range ahead of meaning", () -> match.order(1, 1, 1, 8));
        Check.is("pieces have room of their own", match.piece(1, 1, 1, 0), 0);
        Check.noIndex("it did not come", () -> match.fits(0, 10));
    }
}
