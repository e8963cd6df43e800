/** Promise 2: one more piece and its number; sizes, grade, ten at most. */
public final class Promise02PieceTest {
    public static void main(String[] args) {
        takesEdges();
        refusesRange();
        refusesTheEleventh();
        keepsItsDay();
        Check.end();
    }

    private static void takesEdges() {
        SurplusMatch match = new SurplusMatch();
        Check.is("least", match.piece(1, 1, 1, 0), 0);
        Check.is("most", match.piece(1000, 1000, 1000, 7), 1);
        match.order(1000, 1000, 1000, 7);
        Check.is("least piece kept", match.fits(0, 0), false);
        Check.is("most piece kept", match.fits(1, 0), true);
    }

    private static void refusesRange() {
        SurplusMatch match = new SurplusMatch();
        int[] bad = {0, -1, 1001, Integer.MIN_VALUE, Integer.MAX_VALUE};
        for (int size : bad) {
            Check.noRange("thick " + size, () -> match.piece(size, 1, 1, 0));
            Check.noRange("wide " + size, () -> match.piece(1, size, 1, 0));
            Check.noRange("length " + size, () -> match.piece(1, 1, size, 0));
        }
        for (int grade : new int[] {-1, 8, Integer.MIN_VALUE, Integer.MAX_VALUE}) {
            Check.noRange("grade " + grade, () -> match.piece(1, 1, 1, grade));
        }
        Check.noIndex("none came", () -> match.reserved(0));
        Check.is("the first number", match.piece(1, 1, 1, 0), 0);
    }

    private static void refusesTheEleventh() {
        SurplusMatch match = new SurplusMatch();
        for (int k = 0; k < 10; k++) {
            Check.is("number", match.piece(1, 1, 1, 0), k);
        }
        Check.noMeaning("the eleventh", () -> match.piece(1, 1, 1, 0));
        Check.noRange("range ahead of meaning", () -> match.piece(0, 1, 1, 0));
        Check.noIndex("it did not come", () -> match.reserved(10));
        Check.is("orders have room of their own", match.order(1, 1, 1, 0), 0);
    }

    private static void keepsItsDay() {
        SurplusMatch match = new SurplusMatch();
        match.rules(0, 1, 100);
        match.order(1, 1, 1, 0);
        match.tick(30);
        match.piece(1, 1, 1, 0);
        match.worth(0, 0, 100);
        Check.is("new", match.net(0, 0), 100);
        match.tick(7);
        Check.is("seven days old", match.net(0, 0), 93);
    }
}
