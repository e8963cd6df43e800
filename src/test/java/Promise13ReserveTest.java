/** Promise 13: reserves a piece for an order up to a day. */
public final class Promise13ReserveTest {
    public static void main(String[] args) {
        reserves();
        takesEdges();
        refuses();
        keepsTheOrderOfRefusals();
        Check.end();
    }

    private static void reserves() {
        SurplusMatch match = Check.alike(2, 2);
        match.reserve(0, 1, 3);
        Check.is("reserved", match.reserved(0), 1);
        Check.is("not reserved", match.reserved(1), -1);
        match.reserve(1, 0, 3);
        Check.is("reserved too", match.reserved(1), 0);
    }

    private static void takesEdges() {
        SurplusMatch match = Check.alike(2, 2);
        match.tick(7);
        Check.noRange("yesterday", () -> match.reserve(0, 0, 6));
        match.reserve(0, 0, 7);
        Check.is("today", match.reserved(0), 0);
        Check.noRange("day 10,000", () -> match.reserve(1, 1, 10_000));
        match.reserve(1, 1, 9999);
        Check.is("the last day", match.reserved(1), 1);
    }

    private static void refuses() {
        SurplusMatch match = Check.alike(4, 4);
        match.order(1, 6, 5, 0);
        Check.noIndex("piece -1", () -> match.reserve(-1, 0, 0));
        Check.noIndex("piece 4", () -> match.reserve(4, 0, 0));
        Check.noIndex("order -1", () -> match.reserve(0, -1, 0));
        Check.noIndex("order 5", () -> match.reserve(0, 5, 0));
        Check.noRange("day -1", () -> match.reserve(0, 0, -1));
        Check.noRange("far day", () -> match.reserve(0, 0, Integer.MAX_VALUE));
        Check.noMeaning("no fit", () -> match.reserve(0, 4, 0));
        Check.is("nothing reserved", match.reserved(0), -1);
        match.reserve(0, 0, 3);
        Check.noTurn("piece reserved", () -> match.reserve(0, 1, 3));
        Check.noTurn("order reserved", () -> match.reserve(1, 0, 3));
        Check.noTurn("both, for one another", () -> match.reserve(0, 0, 3));
        match.worth(1, 1, 1);
        match.run();
        match.undo(2);
        Check.noTurn("piece used", () -> match.reserve(1, 2, 3));
        Check.noTurn("order used", () -> match.reserve(2, 1, 3));
        match.reserve(2, 2, 3);
        Check.is("both free", match.reserved(2), 2);
        match.tick(4);
        match.undo(3);
        match.reserve(3, 2, 4);
        Check.is("its order is free behind the day", match.reserved(3), 2);
    }

    private static void keepsTheOrderOfRefusals() {
        SurplusMatch match = Check.alike(2, 1);
        match.order(2, 5, 5, 0);
        Check.noRange("range ahead of meaning", () -> match.reserve(0, 1, -1));
        match.reserve(0, 0, 3);
        Check.noTurn("turn ahead of range", () -> match.reserve(0, 1, -1));
        Check.noTurn("turn ahead of meaning", () -> match.reserve(0, 1, 3));
        Check.noIndex("index ahead of turn", () -> match.reserve(0, 2, 3));
        Check.is("it stays", match.reserved(0), 0);
    }
}
