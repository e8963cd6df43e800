import java.util.ArrayList;
import java.util.List;
import java.util.TreeMap;
import java.util.TreeSet;

/** The document again, as plainly as can be and by trying everything: what the class is held against. */
final class Model {
    record Board(int thick, int wide, int length, int grade, int day) { }

    record Hold(int order, int day) { }

    private final List<Board> pieces = new ArrayList<>();
    private final List<Board> orders = new ArrayList<>();
    private final TreeMap<Integer, TreeSet<Integer>> used = new TreeMap<>();
    private final TreeMap<Integer, Hold> holds = new TreeMap<>();
    private final int[][] told = new int[10][10];
    private int today = 0;
    private int cut = 0;
    private int aging = 0;
    private int saleAge = 100;
    private int lastSum = 0;
    private boolean fresh = false;
    private int[] pieceDuals = new int[10];
    private int[] orderDuals = new int[10];

    private final boolean[][] mayNow = new boolean[10][10];
    private final int[][] netNow = new int[10][10];
    private int triedSum;
    private int triedPairs;
    private int[] triedBest;

    int today() {
        return today;
    }

    int pieceCount() {
        return pieces.size();
    }

    int orderCount() {
        return orders.size();
    }

    int piece(int thick, int wide, int length, int grade) {
        return add(pieces, thick, wide, length, grade);
    }

    int order(int thick, int wide, int length, int grade) {
        return add(orders, thick, wide, length, grade);
    }

    private int add(List<Board> boards, int thick, int wide, int length, int grade) {
        for (int size : new int[] {thick, wide, length}) {
            range(size >= 1 && size <= 1000);
        }
        range(grade >= 0 && grade <= 7);
        meaning(boards.size() < 10);
        boards.add(new Board(thick, wide, length, grade, today));
        fresh = false;
        return boards.size() - 1;
    }

    void worth(int piece, int order, int cents) {
        index(piece, pieces.size());
        index(order, orders.size());
        range(cents >= 0 && cents <= 1_000_000);
        meaning(fits(piece, order));
        told[piece][order] = cents;
    }

    void rules(int newCut, int newAging, int newSale) {
        range(newCut >= 0 && newCut <= 1000);
        range(newAging >= 0 && newAging <= 1000);
        range(newSale >= 0 && newSale <= 9999);
        cut = newCut;
        aging = newAging;
        saleAge = newSale;
    }

    boolean fits(int piece, int order) {
        index(piece, pieces.size());
        index(order, orders.size());
        Board p = pieces.get(piece);
        Board o = orders.get(order);
        return p.grade == o.grade && p.thick == o.thick && p.wide >= o.wide && p.length >= o.length;
    }

    int net(int piece, int order) {
        meaning(fits(piece, order));
        Board p = pieces.get(piece);
        Board o = orders.get(order);
        int left = told[piece][order];
        left -= p.wide != o.wide ? cut : 0;
        left -= p.length != o.length ? cut : 0;
        left -= aging * (today - p.day);
        return left < 0 ? 0 : left;
    }

    private boolean isOrderUsed(int order) {
        return used.values().stream().anyMatch(set -> set.contains(order));
    }

    private boolean isHeldByOther(int piece, int order) {
        return holds.entrySet().stream().anyMatch(e -> e.getKey() != piece && e.getValue().order == order);
    }

    private boolean may(int piece, int order) {
        return fits(piece, order) && !used.containsKey(piece) && !isOrderUsed(order)
                && !isHeldByOther(piece, order)
                && (!holds.containsKey(piece) || holds.get(piece).order == order);
    }

    /** Tries all matchings, the first by pieces first; a later one must be better. */
    private void tryFrom(int piece, int[] given, int sum, int pairs, int without) {
        if (piece == pieces.size()) {
            if (triedBest == null || sum > triedSum || sum == triedSum && pairs > triedPairs) {
                triedBest = given.clone();
                triedSum = sum;
                triedPairs = pairs;
            }
            return;
        }
        for (int order = 0; order < orders.size(); order++) {
            boolean taken = order == without;
            for (int k = 0; k < piece; k++) {
                taken |= given[k] == order;
            }
            if (!taken && mayNow[piece][order]) {
                given[piece] = order;
                tryFrom(piece + 1, given, sum + netNow[piece][order], pairs + 1, without);
            }
        }
        given[piece] = -1;
        tryFrom(piece + 1, given, sum, pairs, without);
    }

    private void lookAtPairs() {
        for (int piece = 0; piece < pieces.size(); piece++) {
            for (int order = 0; order < orders.size(); order++) {
                mayNow[piece][order] = may(piece, order);
                netNow[piece][order] = fits(piece, order) ? net(piece, order) : 0;
            }
        }
    }

    private void tryAll(int without) {
        triedBest = null;
        tryFrom(0, new int[pieces.size()], 0, 0, without);
    }

    int run() {
        pieceDuals = new int[10];
        orderDuals = new int[10];
        int[] withoutSum = new int[10];
        lookAtPairs();
        for (int order = 0; order < orders.size(); order++) {
            tryAll(order);
            withoutSum[order] = triedSum;
        }
        tryAll(-1);
        for (int order = 0; order < orders.size(); order++) {
            orderDuals[order] = isOrderUsed(order) ? 0 : triedSum - withoutSum[order];
        }
        for (int piece = 0; piece < pieces.size(); piece++) {
            int order = triedBest[piece];
            if (order >= 0) {
                pieceDuals[piece] = net(piece, order) - orderDuals[order];
            }
        }
        for (int piece = 0; piece < pieces.size(); piece++) {
            if (triedBest[piece] >= 0) {
                use(piece, new TreeSet<>(List.of(triedBest[piece])));
            }
        }
        lastSum = triedSum;
        fresh = true;
        return triedPairs;
    }

    private void use(int piece, TreeSet<Integer> set) {
        used.put(piece, set);
        holds.remove(piece);
    }

    int sum() {
        return lastSum;
    }

    int dual(int side, int k) {
        index(side, 2);
        index(k, side == 0 ? pieces.size() : orders.size());
        turn(fresh);
        return side == 0 ? pieceDuals[k] : orderDuals[k];
    }

    int several(int piece) {
        index(piece, pieces.size());
        turn(!used.containsKey(piece) && !holds.containsKey(piece));
        TreeSet<Integer> best = new TreeSet<>();
        int bestSum = 0;
        // Downwards: a later set of the same count and sum has the lower bits.
        for (int bits = (1 << orders.size()) - 1; bits > 0; bits--) {
            TreeSet<Integer> set = new TreeSet<>();
            int length = 0;
            int sum = 0;
            boolean can = true;
            for (int order = 0; order < orders.size(); order++) {
                if ((bits & 1 << order) != 0) {
                    set.add(order);
                    can &= may(piece, order);
                    length += orders.get(order).length;
                    sum += can ? net(piece, order) : 0;
                }
            }
            can &= set.size() <= 5 && length <= pieces.get(piece).length;
            if (can && (set.size() > best.size() || set.size() == best.size() && sum >= bestSum)) {
                best = set;
                bestSum = sum;
            }
        }
        if (!best.isEmpty()) {
            use(piece, best);
        }
        return best.size();
    }

    int orderOf(int piece, int i) {
        index(piece, pieces.size());
        notBelowZero(i);
        List<Integer> list = new ArrayList<>(used.getOrDefault(piece, new TreeSet<>()));
        return i < list.size() ? list.get(i) : -1;
    }

    void reserve(int piece, int order, int day) {
        index(piece, pieces.size());
        index(order, orders.size());
        turn(!used.containsKey(piece) && !isOrderUsed(order));
        turn(!holds.containsKey(piece) && !isHeldByOther(-1, order));
        range(day >= today && day <= 9999);
        meaning(fits(piece, order));
        holds.put(piece, new Hold(order, day));
    }

    int reserved(int piece) {
        index(piece, pieces.size());
        return holds.containsKey(piece) ? holds.get(piece).order : -1;
    }

    void undo(int piece) {
        index(piece, pieces.size());
        turn(used.containsKey(piece));
        used.remove(piece);
    }

    int sale(int i) {
        notBelowZero(i);
        List<Integer> list = new ArrayList<>();
        for (int piece = 0; piece < pieces.size(); piece++) {
            boolean free = !used.containsKey(piece) && !holds.containsKey(piece);
            if (free && today - pieces.get(piece).day >= saleAge) {
                list.add(piece);
            }
        }
        list.sort((a, b) -> pieces.get(a).day != pieces.get(b).day
                ? pieces.get(a).day - pieces.get(b).day : a - b);
        return i < list.size() ? list.get(i) : -1;
    }

    int tick(int days) {
        range(days >= 1 && days <= 1000);
        range(today + days <= 9999);
        today += days;
        holds.values().removeIf(hold -> hold.day < today);
        return today;
    }

    private static void index(int k, int count) {
        if (k < 0 || k >= count) {
            throw new IndexOutOfBoundsException();
        }
    }

    private static void notBelowZero(int i) {
        if (i < 0) {
            throw new IndexOutOfBoundsException();
        }
    }

    private static void turn(boolean now) {
        if (!now) {
            throw new IllegalStateException();
        }
    }

    private static void range(boolean within) {
        if (!within) {
            throw new IllegalArgumentException();
        }
    }

    private static void meaning(boolean can) {
        if (!can) {
            throw new UnsupportedOperationException();
        }
    }
}
