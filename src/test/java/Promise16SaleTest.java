/** Promise 16: pieces for sale: free, old enough, the oldest first. */
public final class Promise16SaleTest {
    public static void main(String[] args) {
        SurplusMatch match = new SurplusMatch();
        match.piece(1, 1, 1, 0);
        match.piece(1, 2, 1, 0);
        match.tick(1);
        match.piece(1, 3, 1, 0);
        match.tick(5);
        match.piece(1, 4, 1, 0);
        Check.forSale("listed", match);
        match.rules(0, 0, 7);
        Check.forSale("listed", match);
        match.rules(0, 0, 6);
        Check.forSale("listed", match, 0, 1);
        match.rules(0, 0, 5);
        Check.forSale("listed", match, 0, 1, 2);
        match.rules(0, 0, 0);
        Check.forSale("listed", match, 0, 1, 2, 3);
        match.order(1, 2, 1, 0);
        match.reserve(1, 0, 7);
        Check.forSale("listed", match, 0, 2, 3);
        match.tick(1);
        Check.forSale("listed", match, 0, 2, 3);
        match.tick(1);
        Check.forSale("listed", match, 0, 1, 2, 3);
        match.several(2);
        Check.forSale("listed", match, 0, 1, 3);
        match.undo(2);
        match.run();
        Check.forSale("listed", match, 0, 2, 3);
        match.rules(0, 0, 3);
        Check.forSale("listed", match, 0, 2);
        Check.is("far", match.sale(Integer.MAX_VALUE), -1);
        Check.noIndex("-1", () -> match.sale(-1));
        Check.noIndex("far below", () -> match.sale(Integer.MIN_VALUE));
        Check.end();
    }
}
