/** Promise 6: the same grade and thick, wide and long not below the order's. */
public final class Promise06FitsTest {
    public static void main(String[] args) {
        fits();
        refuses();
        Check.end();
    }

    private static void fits() {
        SurplusMatch match = new SurplusMatch();
        match.piece(5, 50, 500, 3);
        int[][] orders = {
            {5, 50, 500, 3, 1}, {5, 1, 1, 3, 1}, {5, 51, 500, 3, 0}, {5, 50, 501, 3, 0}, {4, 50, 500, 3, 0},
            {6, 50, 500, 3, 0}, {5, 50, 500, 2, 0}, {5, 50, 500, 4, 0}, {5, 49, 500, 3, 1}, {5, 500, 50, 3, 0},
        };
        for (int[] sizes : orders) {
            int order = match.order(sizes[0], sizes[1], sizes[2], sizes[3]);
            Check.is("fits order " + order, match.fits(0, order), sizes[4] == 1);
        }
        match.run();
        Check.is("used, and still fits", match.fits(0, 0), true);
    }

    private static void refuses() {
        SurplusMatch match = Check.alike(2, 1);
        Check.is("the last ones", match.fits(1, 0), true);
        Check.noIndex("piece -1", () -> match.fits(-1, 0));
        Check.noIndex("piece 2", () -> match.fits(2, 0));
        Check.noIndex("order -1", () -> match.fits(0, -1));
        Check.noIndex("order 1", () -> match.fits(0, 1));
        Check.noIndex("far", () -> match.fits(Integer.MAX_VALUE, Integer.MIN_VALUE));
    }
}
