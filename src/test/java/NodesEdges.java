/** The edges of nodes, places and what is apart (terms, part 3), and of promises 11 to 15. */
final class NodesEdges {
    private static final int UNKNOWN = KeyedTree.UNKNOWN;
    private static final int OUTSIDE = KeyedTree.OUTSIDE;
    private static final int STATE = KeyedTree.STATE;
    private static final int NONE = KeyedTree.NONE;
    private static final int MIN = Integer.MIN_VALUE;
    private static final int MAX = Integer.MAX_VALUE;

    private NodesEdges() {
    }

    static void hold(Sentences s) {
        nodeIsAsThingsAreNow(s);
        nodeOfOneKey(s);
        nodeOfAFullSet(s);
        placeOfAKey(s);
        keyAtAPlace(s);
        apartIsInJustOne(s);
        oneLookIsAll(s);
        looksPartByTheHighestOfBoth(s);
        looksOfFullSets(s);
        looksGoDownTheLongestWay(s);
        sharedHasTheSameKeys(s);
        node(s);
        place(s);
        at(s);
        apart(s);
        differs(s);
    }

    private static void nodeIsAsThingsAreNow(Sentences s) {
        s.of("Terms", "(As things are now.)");
        KeyedTree tree = Talk.pad(Talk.with(0, 2), "A+05A-02B=A!");
        s.all(tree, "node(0, 2, 3)", 1, "node(0, 5, 3)", STATE, "place(0, 49)", 1, "at(0, 0)", 2, "apart(0, 1, 0)", 1,
            "apart(0, 1, 1)", 1, "differs(0, 1, 0)", 2, "node(0, 2, 6)", 8602, "done()", 4);
        s.all(tree, "node(0, 2, 3)", STATE, "node(0, 5, 3)", 1, "at(0, 0)", 5, "apart(0, 1, 0)", 0, "differs(0, 1, 0)", NONE,
            "node(0, 5, 6)", 35);
    }

    private static void nodeOfOneKey(Sentences s) {
        s.of("Terms", "NODE of a KEY in a SET: the KEY just above it, the ROOT of its LEFT, of its RIGHT (NONE), how many KEYS its TREE has, "
            + "the DIGEST of its TREE, how many KEYS are above it on the way from the ROOT; its PRIORITY.");
        s.all(Talk.with(0, 0), "node(0, 0, 0)", NONE, "node(0, 0, 1)", NONE, "node(0, 0, 2)", NONE, "node(0, 0, 3)", 1,
            "node(0, 0, 4)", 7920, "node(0, 0, 5)", 0, "node(0, 0, 6)", 0);
        s.all(Talk.with(3, 49), "node(3, 49, 0)", NONE, "node(3, 49, 1)", NONE, "node(3, 49, 2)", NONE, "node(3, 49, 3)", 1,
            "node(3, 49, 4)", 395951, "node(3, 49, 5)", 0, "node(3, 49, 6)", 6419 * 6419 % 10007);
        // By seed 0: 5 above 2; key 0, of priority 0, is below all others.
        s.all(Talk.with(1, 0, 2, 5), "node(1, 5, 0)", NONE, "node(1, 5, 1)", 2, "node(1, 5, 2)", NONE, "node(1, 2, 0)", 5,
            "node(1, 2, 1)", 0, "node(1, 2, 2)", NONE, "node(1, 0, 0)", 2, "node(1, 0, 1)", NONE, "node(1, 0, 5)", 2);
    }

    private static void nodeOfAFullSet(Sentences s) {
        s.of("Terms", "how many KEYS its TREE has, the DIGEST of its TREE, how many KEYS are above it on the way from the ROOT;");
        KeyedTree tree = Talk.fill(new KeyedTree(), 2, 0, 39);
        s.all(tree, "seed(190)", 0);
        int root = tree.behind(2, 2);
        s.all(tree, "node(2, " + root + ", 3)", 40, "node(2, " + root + ", 5)", 0, "node(2, " + root + ", 0)", NONE,
            "node(2, " + root + ", 4)", tree.told(22));
        int deepest = 0;
        int keys = 0;
        for (int key = 0; key < 40; key++) {
            deepest = Math.max(deepest, tree.node(2, key, 5));
            keys += tree.node(2, key, 3) - tree.node(2, key, 5);
        }
        s.due("keys above the deepest", deepest, 14);
        // Each key counts once in its own tree and once in that of each key above it.
        s.due("keys of all trees, less all depths", keys, 40);
    }

    private static void placeOfAKey(Sentences s) {
        s.of("Terms", "PLACE: how many KEYS of a SET are less than a KEY;");
        s.each(new KeyedTree(), "place(0, #)", 0, 0, 25, 49);
        s.each(Talk.with(0, 0), "place(0, #)", 1, 1, 25, 49);
        s.due(Talk.with(0, 0), "place(0, 0)", 0);
        s.each(Talk.with(0, 49), "place(0, #)", 0, 0, 48, 49);
        KeyedTree full = Talk.fill(new KeyedTree(), 3, 10, 49);
        s.all(full, "place(3, 0)", 0, "place(3, 10)", 0, "place(3, 11)", 1, "place(3, 49)", 39);
        s.all(Talk.fill(new KeyedTree(), 3, 0, 39), "place(3, 39)", 39, "place(3, 40)", 40, "place(3, 49)", 40);
    }

    private static void keyAtAPlace(Sentences s) {
        s.of("Terms", "the i-th KEY of a SET (from 0 on; NONE).");
        s.each(new KeyedTree(), "at(0, #)", NONE, 0, 1, -1, MIN, MAX);
        s.all(Talk.with(0, 49, 0), "at(0, 0)", 0, "at(0, 1)", 49, "at(0, 2)", NONE, "at(0, -1)", NONE);
        KeyedTree full = Talk.fill(new KeyedTree(), 3, 10, 49);
        for (int i = 0; i < 40; i++) {
            s.due(full, "at(3, " + i + ")", 10 + i);
        }
        s.each(full, "at(3, #)", NONE, 40, 49, 50, -1, MIN, MAX);
    }

    private static void apartIsInJustOne(Sentences s) {
        s.of("Terms", "APART: how many KEYS are in just one of two SETS; the i-th, rising (NONE).");
        s.all(new KeyedTree(), "apart(0, 1, 0)", 0, "apart(0, 0, 0)", 0, "differs(0, 1, 0)", NONE);
        s.all(Talk.with(0, 0), "apart(0, 1, 0)", 1, "apart(1, 0, 0)", 1, "differs(0, 1, 0)", 0, "differs(1, 0, 0)", 0, "differs(1, 0, 1)", NONE);
        s.all(Talk.put(Talk.with(0, 0, 49), 1, 49), "apart(0, 1, 0)", 1, "differs(0, 1, 0)", 0, "differs(0, 1, 1)", NONE);
        KeyedTree all = Talk.fill(Talk.fill(new KeyedTree(), 0, 0, 24), 3, 25, 49);
        s.all(all, "apart(0, 3, 0)", 50, "apart(3, 0, 0)", 50, "apart(3, 3, 0)", 0, "differs(3, 0, 50)", NONE, "differs(3, 3, 0)", NONE);
        for (int i = 0; i < 50; i++) {
            s.due(all, "differs(0, 3, " + i + ")", i);
        }
        KeyedTree full = Talk.fill(Talk.fill(new KeyedTree(), 0, 0, 39), 1, 10, 49);
        s.all(full, "apart(0, 1, 0)", 20, "differs(0, 1, 9)", 9, "differs(0, 1, 10)", 40, "differs(0, 1, 19)", 49, "differs(0, 1, 20)", NONE);
    }

    private static void oneLookIsAll(Sentences s) {
        s.of("Terms", "LOOKS: TREES of both SETS are looked at; one look at two TREES: if the DIGESTS are one, or one TREE has no KEYS, "
            + "that is all;");
        s.all(new KeyedTree(), "apart(0, 1, 1)", 1, "apart(2, 2, 1)", 1);
        s.all(Talk.with(0, 0, 25, 49), "apart(0, 1, 1)", 1, "apart(1, 0, 1)", 1, "apart(0, 0, 1)", 1);
        s.all(Talk.fill(Talk.fill(new KeyedTree(), 0, 0, 39), 1, 0, 39), "apart(0, 1, 1)", 1, "apart(0, 3, 1)", 1);
        // {0, 33} and {1, 2} are of one digest by seed 0: no more than one look, though all keys are apart.
        KeyedTree twins = Talk.put(Talk.with(0, 0, 33), 1, 1, 2);
        s.all(twins, "told(20)", 514767, "told(21)", 514767, "apart(0, 1, 1)", 1, "apart(0, 1, 0)", 4, "differs(0, 1, 0)", 0,
            "apart(0, 1, 2)", 0);
        // By seed 9876 key 0 is above 33, and tied with 2: none and none, then {33} and {1, 2}, by 2.
        s.all(twins, "seed(9876)", 0, "apart(0, 1, 1)", 5);
    }

    private static void looksPartByTheHighestOfBoth(Sentences s) {
        s.of("Terms", "else, by the KEY that RANKS highest of both TREES, the TREES of those less, of both, "
            + "and then the TREES of those greater, of both, are looked at likewise: how many looks there are.");
        // The highest is the other's: {0} and {49}, by 49 (above 0, of priority 0): {0} and none, none and none.
        s.all(Talk.put(Talk.with(0, 0), 1, 49), "apart(0, 1, 1)", 3, "apart(1, 0, 1)", 3);
        // By 5 both, then {2} and {1}: by 2, {} and {1}, {} and {}; nothing above 5.
        s.all(Talk.put(Talk.with(0, 2, 5), 1, 1, 5), "apart(0, 1, 1)", 5, "apart(1, 0, 1)", 5);
        // Less and greater both differ: by 20 both, then {2} and {1} take three looks, {21} and {22} three.
        s.all(Talk.put(Talk.with(0, 2, 20, 21), 1, 1, 20, 22), "apart(0, 1, 1)", 7, "apart(1, 0, 1)", 7);
        // By seed 1794 keys 0 and 49 are tied, and 0 parts: none and none, none and {1, 49}; by 49 there were two looks more.
        s.all(Talk.put(Talk.with(0, 0), 1, 1, 49), "seed(1794)", 0, "behind(1, 2)", 49, "apart(0, 1, 1)", 3, "apart(1, 0, 1)", 3);
    }

    private static void looksOfFullSets(Sentences s) {
        s.of("Terms", "are looked at likewise: how many looks there are.");
        int[] seeds = {0, 1, 190, 1794, 5003, 9876, 9999};
        for (int seed : seeds) {
            KeyedTree tree = new KeyedTree();
            Model model = new Model();
            for (int key = 0; key < 50; key++) {
                int set = key % 2;
                tree.put(set, key, true);
                model.put(set, key, true);
                tree.put(2 + key / 25, key, true);
                model.put(2 + key / 25, key, true);
            }
            tree.seed(seed);
            model.seed(seed);
            for (int one = 0; one < 4; one++) {
                for (int other = 0; other < 4; other++) {
                    s.due("looks at " + one + " and " + other + " by seed " + seed, tree.apart(one, other, 1), model.apart(one, other, 1));
                }
            }
        }
    }

    /** By no seed is a way down longer than these 19 keys by seed 113 (see RulesTest): each is parted by, but for the last. */
    private static void looksGoDownTheLongestWay(Sentences s) {
        s.of("Terms", "are looked at likewise: how many looks there are.");
        int[] way = {1, 5, 6, 49, 8, 47, 44, 40, 37, 10, 11, 36, 34, 17, 18, 24, 25, 31};
        KeyedTree tree = Talk.put(Talk.with(0, way), 1, 32);
        s.all(tree, "seed(113)", 0, "behind(0, 3)", 18, "apart(0, 1, 1)", 37, "apart(1, 0, 1)", 37, "put(0, 32, true)", 19,
            "behind(0, 3)", 19, "node(0, 32, 5)", 18, "apart(0, 1, 1)", 37, "apart(1, 0, 1)", 37);
    }

    private static void sharedHasTheSameKeys(Sentences s) {
        s.of("Terms", "SHARED: how many KEYS are in both SETS with TREES of the same KEYS.");
        s.all(new KeyedTree(), "apart(0, 1, 2)", 0, "apart(0, 0, 2)", 0);
        s.all(Talk.with(0, 2, 5), "apart(0, 1, 2)", 0, "apart(0, 0, 2)", 2);
        s.all(Talk.put(Talk.with(0, 2, 5), 1, 2), "apart(0, 1, 2)", 1, "apart(1, 0, 2)", 1);
        s.all(Talk.put(Talk.with(0, 2, 5), 1, 5), "apart(0, 1, 2)", 0, "apart(1, 0, 2)", 0);
        s.all(Talk.put(Talk.with(0, 2), 1, 5), "apart(0, 1, 2)", 0);
        s.all(Talk.fill(Talk.fill(new KeyedTree(), 0, 0, 39), 3, 0, 39), "apart(0, 3, 2)", 40, "apart(3, 3, 2)", 40);
        // 5 is in both with one key less at its left, yet 2 and what is below it are the same.
        s.all(Talk.put(Talk.with(0, 1, 2, 4, 5), 1, 1, 2, 4, 5, 6), "apart(0, 1, 2)", 3);
    }

    private static void node(Sentences s) {
        s.of("Promise 11: node", "NODE: above (what = 0), LEFT (1), RIGHT (2); NONE; KEYS (3), DIGEST (4), how deep (5), PRIORITY (6).");
        KeyedTree tree = Talk.with(0, 2, 1, 4, 5);
        s.all(tree, "node(0, 2, 0)", 5, "node(0, 2, 1)", 1, "node(0, 2, 2)", 4, "node(0, 2, 3)", 3,
            "node(0, 2, 4)", 1 + (31 * 15839 + 57 * 39596 + 7919 * 3) % 999983, "node(0, 2, 5)", 1, "node(0, 2, 6)", 8602,
            "node(0, 5, 0)", NONE, "node(0, 5, 2)", NONE, "node(0, 1, 1)", NONE);
        s.of("Promise 11: node", "UNKNOWN: both;");
        int[] noSet = {-1, 4, MIN, MAX};
        int[] noKey = {-1, 50, MIN, MAX};
        s.each(tree, "node(#, 2, 0)", UNKNOWN, noSet);
        s.each(tree, "node(0, #, 0)", UNKNOWN, noKey);
        s.each(tree, "node(#, 2, 7)", UNKNOWN, noSet);
        s.each(tree, "node(0, #, 7)", UNKNOWN, noKey);
        s.each(tree, "node(4, #, -1)", UNKNOWN, noKey);
        s.of("Promise 11: node", "OUTSIDE;");
        s.each(tree, "node(0, 2, #)", OUTSIDE, -1, 7, MIN, MAX);
        s.each(tree, "node(0, 3, #)", OUTSIDE, -1, 7, MIN, MAX);
        s.of("Promise 11: node", "STATE: the KEY is not in it.");
        s.each(tree, "node(0, 3, #)", STATE, 0, 1, 2, 3, 4, 5, 6);
        s.each(tree, "node(1, 2, #)", STATE, 0, 1, 2, 3, 4, 5, 6);
        s.all(tree, "put(0, 2, false)", 3, "node(0, 2, 0)", STATE, "put(0, 2, true)", 4, "node(0, 2, 0)", 5);
    }

    private static void place(Sentences s) {
        s.of("Promise 12: place", "PLACE: how many are less.");
        KeyedTree tree = Talk.with(1, 0, 49);
        s.all(tree, "place(1, 0)", 0, "place(1, 1)", 1, "place(1, 49)", 1, "place(0, 49)", 0);
        s.of("Promise 12: place", "UNKNOWN: both.");
        s.each(tree, "place(#, 0)", UNKNOWN, -1, 4, MIN, MAX);
        s.each(tree, "place(1, #)", UNKNOWN, -1, 50, MIN, MAX);
        s.each(tree, "place(4, #)", UNKNOWN, -1, 50, MIN, MAX);
    }

    private static void at(Sentences s) {
        s.of("Promise 13: at", "The i-th KEY; NONE.");
        KeyedTree tree = Talk.with(2, 49, 0, 25);
        s.all(tree, "at(2, 0)", 0, "at(2, 1)", 25, "at(2, 2)", 49);
        s.each(tree, "at(2, #)", NONE, 3, 50, -1, -6, MIN, MAX);
        s.of("Promise 13: at", "UNKNOWN.");
        s.each(tree, "at(#, 0)", UNKNOWN, -1, 4, MIN, MAX);
        s.each(tree, "at(#, -1)", UNKNOWN, -1, 4, MIN, MAX);
        s.each(tree, "at(4, #)", UNKNOWN, 3, 50, -1, MIN, MAX);
    }

    private static void apart(Sentences s) {
        s.of("Promise 14: apart", "How many are APART (what = 0), LOOKS (1), SHARED (2).");
        KeyedTree tree = Talk.put(Talk.with(0, 0, 2, 5), 3, 0, 2);
        s.all(tree, "apart(0, 3, 0)", 1, "apart(0, 3, 1)", 3, "apart(0, 3, 2)", 2, "apart(3, 0, 0)", 1, "apart(3, 0, 1)", 3,
            "apart(3, 0, 2)", 2, "apart(0, 0, 0)", 0, "apart(0, 0, 1)", 1, "apart(0, 0, 2)", 3);
        s.of("Promise 14: apart", "UNKNOWN: both SETS;");
        int[] none = {-1, 4, MIN, MAX};
        for (int what = -1; what <= 3; what++) {
            s.each(tree, "apart(#, 0, " + what + ")", UNKNOWN, none);
            s.each(tree, "apart(0, #, " + what + ")", UNKNOWN, none);
            s.each(tree, "apart(#, #, " + what + ")", UNKNOWN, none);
        }
        s.of("Promise 14: apart", "OUTSIDE.");
        s.each(tree, "apart(0, 3, #)", OUTSIDE, -1, 3, MIN, MAX);
        s.each(tree, "apart(1, 1, #)", OUTSIDE, -1, 3, MIN, MAX);
    }

    private static void differs(Sentences s) {
        s.of("Promise 15: differs", "The i-th KEY that is APART; NONE.");
        KeyedTree tree = Talk.put(Talk.with(0, 0, 5), 3, 5, 49);
        s.all(tree, "differs(0, 3, 0)", 0, "differs(0, 3, 1)", 49, "differs(3, 0, 1)", 49);
        s.each(tree, "differs(0, 3, #)", NONE, 2, 50, -1, -6, MIN, MAX);
        s.each(tree, "differs(0, 0, #)", NONE, 0, -1, MIN, MAX);
        s.of("Promise 15: differs", "UNKNOWN: both SETS.");
        s.each(tree, "differs(#, 0, 0)", UNKNOWN, -1, 4, MIN, MAX);
        s.each(tree, "differs(0, #, 0)", UNKNOWN, -1, 4, MIN, MAX);
        s.each(tree, "differs(#, #, -1)", UNKNOWN, -1, 4, MIN, MAX);
    }
}
