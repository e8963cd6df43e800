/** Promise 7: the worth less cut and aging, not below 0. */
public final class Promise07NetTest {
    public static void main(String[] args) {
        cuts();
        ages();
        refuses();
        Check.end();
    }

    private static void cuts() {
        SurplusMatch match = new SurplusMatch();
        match.piece(1, 10, 20, 0);
        match.order(1, 10, 20, 0);
        match.order(1, 9, 20, 0);
        match.order(1, 10, 19, 0);
        match.order(1, 9, 19, 0);
        for (int order = 0; order < 4; order++) {
            match.worth(0, order, 100);
        }
        match.rules(30, 0, 100);
        Check.is("just so", match.net(0, 0), 100);
        Check.is("wide cut", match.net(0, 1), 70);
        Check.is("long cut", match.net(0, 2), 70);
        Check.is("both cut", match.net(0, 3), 40);
        match.rules(50, 0, 100);
        Check.is("just 0", match.net(0, 3), 0);
        match.rules(51, 0, 100);
        Check.is("not below 0", match.net(0, 3), 0);
    }

    private static void ages() {
        SurplusMatch match = new SurplusMatch();
        match.order(1, 1, 1, 0);
        match.piece(1, 1, 1, 0);
        match.tick(10);
        match.piece(1, 1, 1, 0);
        match.worth(0, 0, 100);
        match.worth(1, 0, 100);
        match.rules(0, 7, 100);
        Check.is("ten days", match.net(0, 0), 30);
        Check.is("no day", match.net(1, 0), 100);
        match.tick(5);
        Check.is("not below 0", match.net(0, 0), 0);
        Check.is("five days", match.net(1, 0), 65);
        match.worth(0, 0, 1_000_000);
        match.rules(0, 1000, 100);
        match.tick(984);
        Check.is("day 999", match.net(0, 0), 1000);
        match.tick(1);
        Check.is("day 1000", match.net(0, 0), 0);
        for (int k = 0; k < 8; k++) {
            match.tick(1000);
        }
        match.tick(999);
        Check.is("day 9999", match.net(0, 0), 0);
    }

    private static void refuses() {
        SurplusMatch match = new SurplusMatch();
        match.piece(1, 5, 5, 0);
        match.order(1, 5, 6, 0);
        Check.noIndex("piece -1", () -> match.net(-1, 0));
        Check.noIndex("piece 1", () -> match.net(1, 0));
        Check.noIndex("order -1", () -> match.net(0, -1));
        Check.noIndex("order 1", () -> match.net(0, 1));
        Check.noMeaning("no fit", () -> match.net(0, 0));
    }
}
