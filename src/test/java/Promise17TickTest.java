/** Promise 17: time goes on by 1 to 1,000 days, up to day 9,999. */
public final class Promise17TickTest {
    public static void main(String[] args) {
        SurplusMatch match = new SurplusMatch();
        match.rules(0, 1, 0);
        match.piece(1, 1, 1, 0);
        match.order(1, 1, 1, 0);
        match.worth(0, 0, 1_000_000);
        for (int bad : new int[] {0, -1, 1001, Integer.MIN_VALUE, Integer.MAX_VALUE}) {
            Check.noRange("days " + bad, () -> match.tick(bad));
        }
        Check.is("nothing went on", match.net(0, 0), 1_000_000);
        Check.is("one day", match.tick(1), 1);
        Check.is("a thousand", match.tick(1000), 1001);
        Check.is("aged", match.net(0, 0), 1_000_000 - 1001);
        for (int k = 2; k <= 9; k++) {
            Check.is("a thousand", match.tick(1000), 1000 * k + 1);
        }
        Check.noRange("beyond the last day", () -> match.tick(999));
        Check.noRange("far beyond", () -> match.tick(1000));
        Check.is("aged no more", match.net(0, 0), 1_000_000 - 9001);
        Check.is("the last day", match.tick(998), 9999);
        Check.noRange("none behind it", () -> match.tick(1));
        match.reserve(0, 0, 9999);
        Check.is("a reservation on the last day", match.reserved(0), 0);
        Check.end();
    }
}
