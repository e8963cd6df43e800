/** Promise 5: the cut, the aging, the age from which a piece is for sale. */
public final class Promise05RulesTest {
    public static void main(String[] args) {
        rule();
        takesEdges();
        refuses();
        Check.end();
    }

    private static SurplusMatch oneOfTwoDays() {
        SurplusMatch match = new SurplusMatch();
        match.piece(1, 9, 9, 0);
        match.order(1, 8, 8, 0);
        match.worth(0, 0, 1_000_000);
        match.tick(2);
        return match;
    }

    private static void rule() {
        SurplusMatch match = oneOfTwoDays();
        match.rules(5, 100, 3);
        Check.is("cut and aging", match.net(0, 0), 1_000_000 - 10 - 200);
        Check.is("not yet for sale", match.sale(0), -1);
        match.rules(6, 300, 2);
        Check.is("new cut and aging", match.net(0, 0), 1_000_000 - 12 - 600);
        Check.is("for sale now", match.sale(0), 0);
        match.rules(0, 0, 0);
        Check.is("neither", match.net(0, 0), 1_000_000);
    }

    private static void takesEdges() {
        SurplusMatch match = oneOfTwoDays();
        match.rules(1000, 1000, 9999);
        Check.is("the most", match.net(0, 0), 1_000_000 - 2000 - 2000);
        Check.is("for sale on day 2", match.sale(0), -1);
        for (int k = 0; k < 9; k++) {
            match.tick(1000);
        }
        match.tick(996);
        Check.is("for sale on day 9998", match.sale(0), -1);
        match.tick(1);
        Check.is("for sale on day 9999", match.sale(0), 0);
    }

    private static void refuses() {
        SurplusMatch match = oneOfTwoDays();
        match.rules(1, 10, 2);
        for (int bad : new int[] {-1, 1001, Integer.MIN_VALUE, Integer.MAX_VALUE}) {
            Check.noRange("cut " + bad, () -> match.rules(bad, 20, 9));
            Check.noRange("aging " + bad, () -> match.rules(2, bad, 9));
        }
        for (int bad : new int[] {-1, 10_000, Integer.MIN_VALUE, Integer.MAX_VALUE}) {
            Check.noRange("sale " + bad, () -> match.rules(2, 20, bad));
        }
        Check.is("cut and aging stay", match.net(0, 0), 1_000_000 - 2 - 20);
        Check.is("the sale stays", match.sale(0), 0);
    }
}
