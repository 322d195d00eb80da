/** Promises 16 to 21: above, forget, seeds, orders, shapes, deep. */
public final class CountsTest {
    private static final Tally TALLY = new Tally("CountsTest");
    private static final int NONE = KeyedTree.NONE;

    public static void main(String[] args) {
        above();
        forget();
        seeds();
        seedsOfTies();
        seedsOfEveryTree();
        orders();
        ordersByCounting();
        shapes();
        deep();
        deepByCounting();
        TALLY.end();
    }

    private static void above() {
        KeyedTree tree = new KeyedTree();
        int[] no = {-1, 50, Integer.MIN_VALUE, Integer.MAX_VALUE};
        for (int wrong : no) {
            TALLY.due("above(" + wrong + ", 0)", tree.above(wrong, 0), KeyedTree.UNKNOWN);
            TALLY.due("above(0, " + wrong + ")", tree.above(0, wrong), KeyedTree.UNKNOWN);
            TALLY.due("above(" + wrong + ", " + wrong + ")", tree.above(wrong, wrong), KeyedTree.UNKNOWN);
        }
        TALLY.due("above(0, 0)", tree.above(0, 0), KeyedTree.OUTSIDE);
        TALLY.due("above(49, 49)", tree.above(49, 49), KeyedTree.OUTSIDE);
        TALLY.due("no sight", tree.told(2), 0);
        TALLY.due("all seeds", tree.seeds(-1), 10000);
        for (int i = 1; i <= 8; i++) {
            TALLY.due("the same sight again, " + i, tree.above(0, 49), i);
        }
        int seeds = tree.seeds(-1);
        TALLY.due("the ninth", tree.above(1, 2), KeyedTree.FULL);
        TALLY.due("the ninth, of no key", tree.above(50, 2), KeyedTree.UNKNOWN);
        TALLY.due("the ninth, of one", tree.above(2, 2), KeyedTree.OUTSIDE);
        TALLY.due("eight sights", tree.told(2), 8);
        TALLY.due("the ninth changes nothing", tree.seeds(-1), seeds);
    }

    private static void forget() {
        KeyedTree tree = new KeyedTree();
        TALLY.due("forget nothing", tree.forget(), 0);
        tree.above(0, 1);
        tree.above(1, 0);
        TALLY.due("none can be", tree.seeds(-1), 0);
        TALLY.due("forget", tree.forget(), 2);
        TALLY.due("no sights", tree.told(2), 0);
        TALLY.due("all can be", tree.seeds(-1), 10000);
        TALLY.due("the last can be", tree.seeds(9999), 9999);
        TALLY.due("there is room again", tree.above(0, 1), 1);
    }

    private static void seeds() {
        KeyedTree tree = new KeyedTree();
        int[] none = {-2, -6, 10000, Integer.MIN_VALUE, Integer.MAX_VALUE};
        for (int i : none) {
            TALLY.due("seeds(" + i + ")", tree.seeds(i), NONE);
        }
        for (int i = 0; i < 10000; i += 63) {
            TALLY.due("seeds(" + i + ")", tree.seeds(i), i);
        }
        tree.seed(4000);
        Talk.put(tree, 0, 1, 2);
        TALLY.due("the seed that is does not matter", tree.seeds(-1), 10000);
        tree.above(5, 2);
        tree.above(2, 1);
        tree.above(1, 4);
        tree.above(4, 3);
        tree.above(3, 0);
        TALLY.due("seed 0 ranks so", tree.seeds(0), 0);
        int all = tree.seeds(-1);
        TALLY.must("the last one is there", tree.seeds(all - 1) > 0);
        TALLY.due("there is none behind it", tree.seeds(all), NONE);
    }

    /** By seed 9876 keys 0 and 2 are of as great a priority: 0 ranks above. */
    private static void seedsOfTies() {
        KeyedTree tree = new KeyedTree();
        tree.above(0, 2);
        int so = tree.seeds(-1);
        TALLY.must("9876 is there", has(tree, 9876));
        tree.forget();
        tree.above(2, 0);
        TALLY.must("9876 is not there", !has(tree, 9876));
        TALLY.due("either is so", so + tree.seeds(-1), 10000);
    }

    private static boolean has(KeyedTree tree, int seed) {
        int low = 0;
        int high = tree.seeds(-1);
        while (low < high) {
            int middle = (low + high) / 2;
            if (tree.seeds(middle) < seed) {
                low = middle + 1;
            } else {
                high = middle;
            }
        }
        return tree.seeds(low) == seed;
    }

    /** The seeds by which 10 ranks above 20 and 20 above 49 are those by which the trees are so. */
    private static void seedsOfEveryTree() {
        int so = 0;
        KeyedTree sights = sights();
        for (int seed = 0; seed < 10000; seed++) {
            KeyedTree tree = Talk.put(Talk.with(0, 10, 20), 1, 20, 49);
            tree.seed(seed);
            if (tree.behind(0, 2) == 10 && tree.behind(1, 2) == 20) {
                // An object answers 512 calls alone.
                sights = so % 500 == 0 ? sights() : sights;
                TALLY.due("seeds(" + so + ")", sights.seeds(so), seed);
                so++;
            }
        }
        TALLY.due("seeds(-1)", sights().seeds(-1), so);
        TALLY.due("seeds behind", sights().seeds(so), NONE);
    }

    private static KeyedTree sights() {
        KeyedTree tree = new KeyedTree();
        tree.above(10, 20);
        tree.above(20, 49);
        return tree;
    }

    private static void orders() {
        KeyedTree tree = new KeyedTree();
        int[] no = {-1, 4, Integer.MIN_VALUE, Integer.MAX_VALUE};
        for (int set : no) {
            TALLY.due("orders(" + set + ")", tree.orders(set), KeyedTree.UNKNOWN);
        }
        TALLY.due("orders of none", tree.orders(3), 1);
        Talk.put(tree, 0, 7);
        TALLY.due("orders of one", tree.orders(0), 1);
        Talk.fill(tree, 1, 0, 19);
        TALLY.must("orders of 20", tree.orders(1) > 0);
        Talk.put(tree, 1, 20);
        TALLY.due("orders of 21", tree.orders(1), KeyedTree.STATE);
        Talk.fill(tree, 2, 0, 5);
        // 5, 2, then 1 above 0 and 4 above 3 in any mix: 4! / 2 / 2.
        TALLY.due("orders of six", tree.orders(2), 6);
    }

    /** In how many of all orders of n keys the tree has the shape that it has. */
    private static void ordersByCounting() {
        int[][] sets = {{1, 2, 3}, {10, 20, 30, 40}, {3, 9, 27, 31, 44}, {0, 7, 11, 18, 25, 49}, {2, 4, 8, 16, 32, 33, 48}};
        for (int[] keys : sets) {
            for (int seed = 0; seed < 10000; seed += 1999) {
                KeyedTree tree = Talk.with(0, keys);
                tree.seed(seed);
                int[] parents = new int[keys.length];
                for (int i = 0; i < keys.length; i++) {
                    int up = tree.node(0, keys[i], 0);
                    parents[i] = up == NONE ? -1 : tree.place(0, up);
                }
                TALLY.due("orders by counting", tree.orders(0), countOrders(parents, 0, new boolean[keys.length]));
            }
        }
    }

    /** Keys are ranked one by one from the highest: each behind the one just above it. */
    private static long countOrders(int[] parents, int ranked, boolean[] has) {
        if (ranked == parents.length) {
            return 1;
        }
        long all = 0;
        for (int i = 0; i < parents.length; i++) {
            if (!has[i] && (parents[i] < 0 || has[parents[i]])) {
                has[i] = true;
                all += countOrders(parents, ranked + 1, has);
                has[i] = false;
            }
        }
        return all;
    }

    private static void shapes() {
        KeyedTree tree = new KeyedTree();
        long[] want = {1, 1, 2, 5, 14, 42, 132, 429, 1430, 4862, 16796};
        for (int n = 0; n < want.length; n++) {
            TALLY.due("shapes(" + n + ")", tree.shapes(n), want[n]);
        }
        TALLY.due("shapes(20)", tree.shapes(20), 6564120420L);
        TALLY.due("shapes(29)", tree.shapes(29), 1002242216651368L);
        TALLY.due("shapes(30)", tree.shapes(30), 3814986502092304L);
        int[] no = {-1, 31, Integer.MIN_VALUE, Integer.MAX_VALUE};
        for (int n : no) {
            TALLY.due("shapes(" + n + ")", tree.shapes(n), KeyedTree.OUTSIDE);
        }
    }

    private static void deepIs(int n, int i, long upper, long lower) {
        KeyedTree tree = new KeyedTree();
        TALLY.due("deep(" + n + ", " + i + ", 0)", tree.deep(n, i, 0), upper);
        TALLY.due("deep(" + n + ", " + i + ", 1)", tree.deep(n, i, 1), lower);
    }

    private static void deep() {
        deepIs(1, 0, 0, 1);
        deepIs(2, 0, 1, 2);
        deepIs(2, 1, 1, 2);
        deepIs(3, 0, 5, 6);
        deepIs(3, 1, 1, 1);
        deepIs(3, 2, 5, 6);
        deepIs(20, 19, 40315631, 15519504);
        int[][] outside = {{0, 0, 0}, {21, 0, 0}, {-1, 0, 0}, {5, 5, 0}, {5, -1, 0}, {5, 0, 2}, {5, 0, -1},
            {Integer.MAX_VALUE, 0, 0}, {Integer.MIN_VALUE, Integer.MIN_VALUE, 0}, {20, Integer.MAX_VALUE, 1}};
        KeyedTree tree = new KeyedTree();
        for (int[] o : outside) {
            TALLY.due("deep outside", tree.deep(o[0], o[1], o[2]), KeyedTree.GONE + KeyedTree.OUTSIDE);
        }
    }

    /** Over all orders of n keys, how many keys are above the i-th, added. */
    private static void deepByCounting() {
        KeyedTree tree = new KeyedTree();
        for (int n = 1; n <= 7; n++) {
            long[] above = new long[n];
            long orders = addDepths(new int[n], 0, above);
            for (int i = 0; i < n; i++) {
                long upper = tree.deep(n, i, 0);
                long lower = tree.deep(n, i, 1);
                TALLY.due("deep(" + n + ", " + i + ") as a fraction", upper * orders, above[i] * lower);
                TALLY.due("in lowest terms", gcd(upper, lower), 1);
            }
        }
    }

    private static long addDepths(int[] rank, int placed, long[] above) {
        int n = rank.length;
        if (placed == n) {
            for (int i = 0; i < n; i++) {
                int low = 0;
                int high = n;
                for (int root = highest(rank, low, high); root != i; root = highest(rank, low, high)) {
                    above[i]++;
                    low = root < i ? root + 1 : low;
                    high = root > i ? root : high;
                }
            }
            return 1;
        }
        long orders = 0;
        for (int i = 0; i < n; i++) {
            if (rank[i] == 0) {
                rank[i] = placed + 1;
                orders += addDepths(rank, placed + 1, above);
                rank[i] = 0;
            }
        }
        return orders;
    }

    private static int highest(int[] rank, int low, int high) {
        int best = low;
        for (int i = low; i < high; i++) {
            best = rank[i] > rank[best] ? i : best;
        }
        return best;
    }

    private static long gcd(long a, long b) {
        return b == 0 ? a : gcd(b, a % b);
    }
}
