/** The edges of sights, seeds, orders, shapes and depths (terms, part 4), and of promises 16 to 21. */
final class CountsEdges {
    private static final int UNKNOWN = KeyedTree.UNKNOWN;
    private static final int OUTSIDE = KeyedTree.OUTSIDE;
    private static final int STATE = KeyedTree.STATE;
    private static final int FULL = KeyedTree.FULL;
    private static final int NONE = KeyedTree.NONE;
    private static final long REFUSED = KeyedTree.GONE + OUTSIDE;
    private static final int MIN = Integer.MIN_VALUE;
    private static final int MAX = Integer.MAX_VALUE;

    private CountsEdges() {
    }

    static void hold(Sentences s) {
        sightsAre8AtMost(s);
        seedsByWhichAllSightsAreSo(s);
        seedsOfNoSight(s);
        seedsOfEightSights(s);
        ordersOfASet(s);
        ordersOfMostKeys(s);
        shapesOfATree(s);
        deepInTheMean(s);
        above(s);
        forget(s);
        seeds(s);
        orders(s);
        shapes(s);
        deep(s);
    }

    private static void sightsAre8AtMost(Sentences s) {
        s.of("Terms", "SIGHTS, 8 at most: a KEY RANKS above another one.");
        KeyedTree tree = new KeyedTree();
        for (int i = 1; i <= 8; i++) {
            s.due("sight " + i, tree.above(49, i), i);
        }
        int seeds = tree.seeds(-1);
        s.all(tree, "above(49, 9)", FULL, "told(2)", 8, "seeds(-1)", seeds, "forget()", 8, "above(49, 9)", 1, "told(2)", 1);
    }

    private static void seedsByWhichAllSightsAreSo(Sentences s) {
        s.of("Terms", "SEEDS 0 to 9999 by which all SIGHTS are so: how many; the i-th (rising).");
        // By seed 0 key 0 ranks lowest of all and key 20 highest; by seed 9999 key 36 highest and key 0 lowest.
        KeyedTree first = new KeyedTree();
        s.all(first, "above(20, 0)", 1, "seeds(0)", 0);
        KeyedTree last = new KeyedTree();
        last.above(36, 0);
        int seeds = last.seeds(-1);
        s.all(last, "seeds(" + (seeds - 1) + ")", 9999, "seeds(" + seeds + ")", NONE);
        KeyedTree neither = new KeyedTree();
        neither.above(0, 20);
        int others = neither.seeds(-1);
        s.must("seed 0 is not among them", neither.seeds(0) > 0);
        s.due("by each seed one of both ranks above", others + first.seeds(-1), 10000);
        int before = -1;
        for (int i = 0; i < 400; i++) {
            int seed = neither.seeds(i);
            s.must("seeds(" + i + ") rises", seed > before);
            before = seed;
        }
        KeyedTree none = new KeyedTree();
        s.all(none, "above(0, 49)", 1, "above(49, 0)", 2, "seeds(-1)", 0, "seeds(0)", NONE, "seeds(1)", NONE, "seeds(9999)", NONE);
    }

    private static void seedsOfNoSight(Sentences s) {
        s.of("Terms", "SEEDS 0 to 9999 by which all SIGHTS are so:");
        KeyedTree tree = Talk.put(new KeyedTree(), 0, 1, 2);
        tree.seed(1234);
        s.all(tree, "seeds(-1)", 10000, "seeds(0)", 0, "seeds(1)", 1, "seeds(63)", 63, "seeds(64)", 64, "seeds(9998)", 9998,
            "seeds(9999)", 9999, "seeds(10000)", NONE);
    }

    /** Every seed by which the eight are so is counted here by itself. */
    private static void seedsOfEightSights(Sentences s) {
        s.of("Terms", "by which all SIGHTS are so: how many;");
        int[][] sights = {{20, 0}, {12, 0}, {9, 0}, {49, 0}, {20, 31}, {12, 31}, {20, 22}, {20, 12}};
        KeyedTree tree = new KeyedTree();
        for (int[] sight : sights) {
            tree.above(sight[0], sight[1]);
        }
        int so = 0;
        for (int seed = 0; seed < 10000; seed++) {
            boolean all = true;
            for (int[] sight : sights) {
                all &= ranksAbove(seed, sight[0], sight[1]);
            }
            if (all && so < 450) {
                s.due(tree, "seeds(" + so + ")", seed);
            }
            so += all ? 1 : 0;
        }
        s.due(tree, "seeds(-1)", so);
        s.due(tree, "seeds(" + so + ")", NONE);
    }

    private static boolean ranksAbove(int seed, int one, int other) {
        long x = (seed + 131L * one) % 10007;
        long y = (seed + 131L * other) % 10007;
        long ones = x * x % 10007;
        long others = y * y % 10007;
        return ones > others || ones == others && one < other;
    }

    private static void ordersOfASet(Sentences s) {
        s.of("Terms", "ORDERS of a SET (20 KEYS at most): in how many orders its KEYS could RANK so that its TREE were of this shape.");
        s.all(new KeyedTree(), "orders(0)", 1, "orders(3)", 1);
        s.all(Talk.with(0, 0), "orders(0)", 1);
        s.all(Talk.with(0, 2, 5), "orders(0)", 1);
        // By seed 0 the ranks are 5, 2, 1, 4: 2 above 1 and 4, which may rank either way; 5, 2, 1 in a row but one way.
        s.all(Talk.with(0, 1, 2, 4), "orders(0)", 2);
        s.all(Talk.with(0, 1, 2, 5), "orders(0)", 1);
        KeyedTree chain = Talk.with(0, 0, 1, 7, 8, 14, 15, 21, 22, 28, 29, 39, 44, 47, 48);
        s.all(chain, "seed(11)", 0, "orders(0)", 1);
        // By seed 794 key 0 ranks highest, then 3, 1, 2, each below the one before.
        s.all(Talk.with(0, 0, 1, 2, 3), "seed(794)", 0, "behind(0, 2)", 0, "behind(0, 3)", 4, "orders(0)", 1);
    }

    private static void ordersOfMostKeys(Sentences s) {
        s.of("Terms", "(20 KEYS at most)");
        KeyedTree tree = Talk.fill(new KeyedTree(), 0, 0, 19);
        s.all(tree, "orders(0)", 41902660800L, "seed(539)", 0, "orders(0)", 146659312800L, "put(0, 20, true)", 21, "orders(0)", STATE,
            "put(0, 0, false)", 20);
        s.must("20 keys again", tree.orders(0) > 0);
        s.all(Talk.fill(new KeyedTree(), 3, 0, 39), "orders(3)", STATE, "orders(2)", 1);
    }

    private static void shapesOfATree(Sentences s) {
        s.of("Terms", "SHAPES: how many shapes a TREE of n KEYS (0 to 30) can have.");
        KeyedTree tree = new KeyedTree();
        s.all(tree, "shapes(0)", 1, "shapes(1)", 1, "shapes(2)", 2, "shapes(3)", 5, "shapes(19)", 1767263190L, "shapes(20)", 6564120420L,
            "shapes(29)", 1002242216651368L, "shapes(30)", 3814986502092304L);
        long[] shapes = new long[31];
        shapes[0] = 1;
        for (int n = 1; n <= 30; n++) {
            for (int left = 0; left < n; left++) {
                shapes[n] += shapes[left] * shapes[n - 1 - left];
            }
            s.due(tree, "shapes(" + n + ")", shapes[n]);
        }
    }

    private static void deepInTheMean(Sentences s) {
        s.of("Terms", "DEEP: how many KEYS are above the i-th (from 0 on) of n KEYS (1 to 20) in the mean, "
            + "if all orders in which they RANK are as likely.");
        KeyedTree tree = new KeyedTree();
        s.all(tree, "deep(1, 0, 0)", 0, "deep(1, 0, 1)", 1, "deep(2, 0, 0)", 1, "deep(2, 0, 1)", 2, "deep(2, 1, 0)", 1, "deep(2, 1, 1)", 2,
            "deep(3, 1, 0)", 1, "deep(3, 1, 1)", 1, "deep(20, 0, 0)", 40315631, "deep(20, 0, 1)", 15519504,
            "deep(20, 19, 0)", 40315631, "deep(20, 19, 1)", 15519504);
        Model model = new Model();
        for (int n = 1; n <= 20; n++) {
            for (int i = 0; i < n; i++) {
                tree = new KeyedTree();
                s.due(tree, "deep(" + n + ", " + i + ", 0)", model.deep(n, i, 0));
                s.due(tree, "deep(" + n + ", " + i + ", 1)", model.deep(n, i, 1));
                s.due(tree, "deep(" + n + ", " + (n - 1 - i) + ", 0)", tree.deep(n, i, 0));
            }
        }
    }

    private static void above(Sentences s) {
        s.of("Promise 16: above", "A SIGHT more: how many.");
        KeyedTree tree = new KeyedTree();
        s.all(tree, "above(0, 49)", 1, "above(49, 0)", 2, "above(0, 49)", 3, "told(2)", 3);
        s.of("Promise 16: above", "UNKNOWN: both KEYS;");
        int[] none = {-1, 50, MIN, MAX};
        s.each(tree, "above(#, 0)", UNKNOWN, none);
        s.each(tree, "above(0, #)", UNKNOWN, none);
        s.each(tree, "above(#, #)", UNKNOWN, none);
        s.of("Promise 16: above", "OUTSIDE: both are one;");
        for (int key = 0; key < 50; key++) {
            s.due(tree, "above(" + key + ", " + key + ")", OUTSIDE);
        }
        s.of("Promise 16: above", "FULL.");
        s.all(tree, "above(1, 2)", 4, "above(2, 1)", 5, "above(1, 2)", 6, "above(2, 1)", 7, "above(1, 2)", 8, "above(1, 2)", FULL,
            "above(0, 49)", FULL, "above(7, 7)", OUTSIDE, "above(50, 50)", UNKNOWN, "told(2)", 8);
    }

    private static void forget(Sentences s) {
        s.of("Promise 17: forget", "SIGHTS go: how many there were.");
        s.all(new KeyedTree(), "forget()", 0, "forget()", 0, "above(0, 1)", 1, "above(1, 0)", 2, "seeds(-1)", 0, "forget()", 2,
            "forget()", 0, "told(2)", 0, "seeds(-1)", 10000, "seeds(9999)", 9999);
        KeyedTree tree = Makes.full();
        int digest = tree.told(20);
        s.all(tree, "forget()", 8, "told(2)", 0, "seeds(-1)", 10000, "above(0, 1)", 1);
        // Sights alone go, and an image keeps its own.
        s.all(tree, "told(0)", 60, "told(1)", 9999, "told(10)", 40, "told(20)", digest, "restore(0)", 1, "told(2)", 8);
    }

    private static void seeds(Sentences s) {
        s.of("Promise 18: seeds", "SEEDS: how many (i = -1), the i-th; NONE.");
        KeyedTree tree = new KeyedTree();
        s.all(tree, "seeds(-1)", 10000, "seeds(0)", 0, "seeds(9999)", 9999);
        s.each(tree, "seeds(#)", NONE, 10000, 10001, -2, -6, MIN, MAX);
        s.all(tree, "above(5, 2)", 1, "above(2, 1)", 2, "seeds(-1)", 1566, "seeds(0)", 0, "seeds(1566)", NONE);
        s.must("the last of them", tree.seeds(1565) > tree.seeds(1564) && tree.seeds(1565) <= 9999);
        s.each(tree, "seeds(#)", NONE, 1567, 9999, 10000, -2, MIN, MAX);
    }

    private static void orders(Sentences s) {
        s.of("Promise 19: orders", "ORDERS; a refusal as it is.");
        KeyedTree tree = Talk.put(Talk.put(Talk.with(0, 1, 2, 4), 1, 1), 3, 0, 49);
        s.all(tree, "orders(0)", 2, "orders(1)", 1, "orders(2)", 1, "orders(3)", 1);
        s.of("Promise 19: orders", "UNKNOWN;");
        s.each(tree, "orders(#)", UNKNOWN, -1, 4, MIN, MAX);
        s.of("Promise 19: orders", "STATE: it has more than 20 KEYS.");
        Talk.fill(tree, 2, 30, 48);
        s.must("19 keys", tree.orders(2) > 0);
        tree.put(2, 49, true);
        s.must("20 keys", tree.orders(2) > 0);
        s.all(tree, "put(2, 0, true)", 21, "orders(2)", STATE, "put(2, 30, false)", 20);
        s.must("20 keys once more", tree.orders(2) > 0);
    }

    private static void shapes(Sentences s) {
        s.of("Promise 20: shapes", "SHAPES; a refusal as it is.");
        KeyedTree tree = new KeyedTree();
        s.all(tree, "shapes(0)", 1, "shapes(30)", 3814986502092304L);
        s.of("Promise 20: shapes", "OUTSIDE.");
        s.each(tree, "shapes(#)", OUTSIDE, -1, 31, MIN, MAX);
    }

    private static void deep(Sentences s) {
        s.of("Promise 21: deep", "DEEP.");
        KeyedTree tree = new KeyedTree();
        s.all(tree, "deep(3, 0, 0)", 5, "deep(3, 0, 1)", 6, "deep(3, 2, 0)", 5, "deep(3, 2, 1)", 6);
        s.of("Promise 21: deep", "OUTSIDE.");
        s.each(tree, "deep(#, 0, 0)", REFUSED, 0, -1, 21, MIN, MAX);
        s.each(tree, "deep(1, #, 0)", REFUSED, -1, 1, MIN, MAX);
        s.each(tree, "deep(20, #, 1)", REFUSED, -1, 20, 21, MIN, MAX);
        s.each(tree, "deep(20, 19, #)", REFUSED, -1, 2, MIN, MAX);
        s.each(tree, "deep(#, #, #)", REFUSED, -1, 0, 21, MIN, MAX);
    }
}
