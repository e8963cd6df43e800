/** Promise 14: for which order a piece is reserved, up to its day. */
public final class Promise14ReservedTest {
    public static void main(String[] args) {
        SurplusMatch match = Check.alike(3, 3);
        match.tick(10);
        match.reserve(0, 2, 10);
        match.reserve(1, 0, 12);
        Check.is("piece 0", match.reserved(0), 2);
        Check.is("piece 1", match.reserved(1), 0);
        Check.is("piece 2", match.reserved(2), -1);
        match.tick(1);
        Check.is("behind its day", match.reserved(0), -1);
        Check.is("within its days", match.reserved(1), 0);
        match.tick(1);
        Check.is("on its day", match.reserved(1), 0);
        match.tick(1);
        Check.is("behind its day", match.reserved(1), -1);
        match.reserve(2, 1, 9999);
        match.tick(1000);
        Check.is("long", match.reserved(2), 1);
        match.run();
        Check.is("used", match.reserved(2), -1);
        Check.used("used for it", match, 2, 1);
        Check.noIndex("-1", () -> match.reserved(-1));
        Check.noIndex("3", () -> match.reserved(3));
        Check.noIndex("far", () -> match.reserved(Integer.MIN_VALUE));
        Check.end();
    }
}
