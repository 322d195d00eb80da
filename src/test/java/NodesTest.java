/** Promises 11 to 15: node, place, at, apart, differs. */
public final class NodesTest {
    private static final Tally TALLY = new Tally("NodesTest");
    private static final int NONE = KeyedTree.NONE;
    /** By seed 9876 keys 0 and 2 are of as great a priority, and key 1 is of priority 0. */
    private static final int TIED = 9876;

    public static void main(String[] args) {
        node();
        nodeOfTies();
        nodeOfTheTree();
        nodeRefused();
        place();
        at();
        apart();
        looks();
        looksByDigestAlone();
        shared();
        apartRefused();
        differs();
        TALLY.end();
    }

    private static void nodeIs(KeyedTree tree, int set, int key, int... want) {
        for (int what = 0; what < want.length; what++) {
            TALLY.due("node(" + set + ", " + key + ", " + what + ")", tree.node(set, key, what), want[what]);
        }
    }

    /** By seed 0: 5 (8731) above 2 (8602) above 1 (7154) and 4 (4387), that above 3 (4344), 1 above 0 (0). */
    private static void node() {
        KeyedTree tree = Talk.fill(new KeyedTree(), 2, 0, 5);
        int of0 = 7920;
        int of3 = 1 + 7919 * 4;
        int of1 = 1 + (31 * of0 + 7919 * 2) % 999983;
        int of4 = 1 + (31 * of3 + 7919 * 5) % 999983;
        int of2 = 1 + (31 * of1 + 57 * of4 + 7919 * 3) % 999983;
        int of5 = 1 + (31 * of2 + 7919 * 6) % 999983;
        nodeIs(tree, 2, 5, NONE, 2, NONE, 6, of5, 0, 8731);
        nodeIs(tree, 2, 2, 5, 1, 4, 5, of2, 1, 8602);
        nodeIs(tree, 2, 1, 2, 0, NONE, 2, of1, 2, 7154);
        nodeIs(tree, 2, 4, 2, 3, NONE, 2, of4, 2, 4387);
        nodeIs(tree, 2, 3, 4, NONE, NONE, 1, of3, 3, 4344);
        nodeIs(tree, 2, 0, 1, NONE, NONE, 1, of0, 3, 0);
        tree.put(2, 5, false);
        nodeIs(tree, 2, 2, NONE, 1, 4, 5, of2, 0, 8602);
    }

    private static void nodeOfTies() {
        KeyedTree tree = Talk.with(0, 2, 0);
        tree.seed(TIED);
        TALLY.due("priority of 0", tree.node(0, 0, 6), 7154);
        TALLY.due("priority of 2", tree.node(0, 2, 6), 7154);
        TALLY.due("the lesser is the root", tree.node(0, 2, 0), 0);
        tree.put(0, 1, true);
        nodeIs(tree, 0, 0, NONE, NONE, 2, 3);
        nodeIs(tree, 0, 2, 0, 1, NONE, 2);
        nodeIs(tree, 0, 1, 2, NONE, NONE, 1);
        TALLY.due("priority of 1", tree.node(0, 1, 6), 0);
        int[] depths = {0, 2, 1};
        for (int key = 0; key < depths.length; key++) {
            TALLY.due("depth of " + key, tree.node(0, key, 5), depths[key]);
        }
    }

    /** Whatever the seed: who is above has this one as its left or right, and counts add up. */
    private static void nodeOfTheTree() {
        int[] seeds = {0, 1, 5003, TIED, 9999};
        for (int seed : seeds) {
            KeyedTree tree = Talk.fill(new KeyedTree(), 1, 10, 49);
            tree.seed(seed);
            for (int key = 10; key < 50; key++) {
                int up = tree.node(1, key, 0);
                boolean hangs = up == NONE ? tree.behind(1, 2) == key : tree.node(1, up, key < up ? 1 : 2) == key;
                TALLY.must("key " + key + " hangs below " + up, hangs);
                int depth = up == NONE ? 0 : tree.node(1, up, 5) + 1;
                TALLY.due("depth of " + key, tree.node(1, key, 5), depth);
                if (up != NONE) {
                    int own = tree.node(1, key, 6);
                    int higher = tree.node(1, up, 6);
                    TALLY.must(up + " ranks above " + key, higher > own || higher == own && up < key);
                }
            }
        }
    }

    private static void nodeRefused() {
        KeyedTree tree = Talk.with(0, 5);
        int[] noSets = {-1, 4, Integer.MIN_VALUE, Integer.MAX_VALUE};
        for (int set : noSets) {
            TALLY.due("node(" + set + ", 5, 9)", tree.node(set, 5, 9), KeyedTree.UNKNOWN);
        }
        int[] noKeys = {-1, 50, Integer.MIN_VALUE, Integer.MAX_VALUE};
        for (int key : noKeys) {
            TALLY.due("node(0, " + key + ", 9)", tree.node(0, key, 9), KeyedTree.UNKNOWN);
        }
        int[] outside = {-1, 7, Integer.MIN_VALUE, Integer.MAX_VALUE};
        for (int what : outside) {
            TALLY.due("node(0, 5, " + what + ")", tree.node(0, 5, what), KeyedTree.OUTSIDE);
            TALLY.due("node(0, 6, " + what + ")", tree.node(0, 6, what), KeyedTree.OUTSIDE);
        }
        for (int what = 0; what <= 6; what++) {
            TALLY.due("node of none, " + what, tree.node(0, 6, what), KeyedTree.STATE);
            TALLY.due("node of no set's key, " + what, tree.node(1, 5, what), KeyedTree.STATE);
        }
    }

    private static void place() {
        KeyedTree tree = Talk.with(3, 0, 10, 49);
        int[] keys = {0, 1, 10, 11, 49};
        int[] want = {0, 1, 1, 2, 2};
        for (int i = 0; i < keys.length; i++) {
            TALLY.due("place(3, " + keys[i] + ")", tree.place(3, keys[i]), want[i]);
        }
        TALLY.due("place in none", tree.place(0, 49), 0);
        int[] no = {-1, 50, Integer.MIN_VALUE, Integer.MAX_VALUE};
        for (int wrong : no) {
            TALLY.due("place(3, " + wrong + ")", tree.place(3, wrong), KeyedTree.UNKNOWN);
            TALLY.due("place(" + wrong + ", 3)", tree.place(wrong, 3), KeyedTree.UNKNOWN);
        }
        TALLY.due("place(4, 0)", tree.place(4, 0), KeyedTree.UNKNOWN);
    }

    private static void at() {
        KeyedTree tree = Talk.with(3, 49, 0, 10);
        int[] want = {0, 10, 49, NONE, NONE};
        for (int i = 0; i < want.length; i++) {
            TALLY.due("at(3, " + i + ")", tree.at(3, i), want[i]);
        }
        int[] none = {-1, -6, 50, Integer.MIN_VALUE, Integer.MAX_VALUE};
        for (int i : none) {
            TALLY.due("at(3, " + i + ")", tree.at(3, i), NONE);
            TALLY.due("at(0, " + i + ")", tree.at(0, i), NONE);
            TALLY.due("at(4, " + i + ")", tree.at(4, i), KeyedTree.UNKNOWN);
        }
        TALLY.due("at(-1, 0)", tree.at(-1, 0), KeyedTree.UNKNOWN);
    }

    private static void apart() {
        KeyedTree tree = Talk.put(Talk.with(0, 1, 2, 3), 1, 3, 4);
        TALLY.due("apart", tree.apart(0, 1, 0), 3);
        TALLY.due("apart, turned", tree.apart(1, 0, 0), 3);
        TALLY.due("apart from itself", tree.apart(0, 0, 0), 0);
        TALLY.due("apart from none", tree.apart(0, 2, 0), 3);
        TALLY.due("none from none", tree.apart(3, 2, 0), 0);
    }

    private static void looks() {
        KeyedTree tree = Talk.with(0, 2, 5);
        TALLY.due("looks at itself", tree.apart(0, 0, 1), 1);
        TALLY.due("looks at none", tree.apart(0, 1, 1), 1);
        TALLY.due("looks of none", tree.apart(1, 0, 1), 1);
        TALLY.due("looks, both none", tree.apart(1, 2, 1), 1);
        Talk.put(tree, 1, 5);
        // By 5: {2} against none, and none against none.
        TALLY.due("looks by 5", tree.apart(0, 1, 1), 3);
        TALLY.due("looks by 5, turned", tree.apart(1, 0, 1), 3);
        Talk.put(tree, 2, 2);
        TALLY.due("looks by 5 of one", tree.apart(0, 2, 1), 3);
        TALLY.due("looks, turned", tree.apart(2, 0, 1), 3);
        Talk.put(tree, 2, 1, 5);
        // By 5: {2} against {1, 2}; by 2: none against {1}, none against none; then none against none.
        TALLY.due("looks by 5, then 2", tree.apart(0, 2, 1), 5);
        tree.seed(1);
        KeyedTree ties = Talk.put(Talk.with(0, 0, 1), 1, 1, 2);
        ties.seed(TIED);
        // By 0, that is less than 2: {1} against {1, 2}; by 2: {1} against {1}.
        TALLY.due("looks by the lesser", ties.apart(0, 1, 1), 5);
        TALLY.due("looks by the lesser, turned", ties.apart(1, 0, 1), 5);
    }

    /** Of the sets of three keys many have one digest: such two are held to be one, and are apart. */
    private static void looksByDigestAlone() {
        java.util.Map<Integer, Integer> seen = new java.util.HashMap<>();
        int pairs = 0;
        for (int a = 0; a < 50 && pairs < 5; a++) {
            for (int b = a + 1; b < 50 && pairs < 5; b++) {
                for (int c = b + 1; c < 50 && pairs < 5; c++) {
                    KeyedTree tree = Talk.with(0, a, b, c);
                    Integer twin = seen.put(tree.told(20), a * 10000 + b * 100 + c);
                    if (twin != null) {
                        pairs++;
                        Talk.put(tree, 1, twin / 10000, twin / 100 % 100, twin % 100);
                        TALLY.due("one digest", tree.told(21), tree.told(20));
                        TALLY.due("one look", tree.apart(0, 1, 1), 1);
                        TALLY.must("but apart", tree.apart(0, 1, 0) > 0);
                        TALLY.must("and not alike", tree.alike(0) == NONE);
                    }
                }
            }
        }
        TALLY.due("pairs of one digest", pairs, 5);
    }

    private static void shared() {
        KeyedTree tree = Talk.fill(Talk.fill(new KeyedTree(), 0, 0, 5), 1, 0, 4);
        TALLY.due("shared", tree.apart(0, 1, 2), 5);
        TALLY.due("shared with itself", tree.apart(0, 0, 2), 6);
        TALLY.due("shared with none", tree.apart(0, 2, 2), 0);
        tree.put(1, 3, false);
        // 4 has lost 3, and so has 2: only 1 and 0 have the same trees.
        TALLY.due("shared, less 3", tree.apart(1, 0, 2), 2);
        tree.put(1, 0, false);
        TALLY.due("shared, less 0", tree.apart(1, 0, 2), 0);
    }

    private static void apartRefused() {
        KeyedTree tree = Talk.with(0, 5);
        int[] no = {-1, 4, Integer.MIN_VALUE, Integer.MAX_VALUE};
        for (int wrong : no) {
            TALLY.due("apart(" + wrong + ", 0, 9)", tree.apart(wrong, 0, 9), KeyedTree.UNKNOWN);
            TALLY.due("apart(0, " + wrong + ", 9)", tree.apart(0, wrong, 9), KeyedTree.UNKNOWN);
            TALLY.due("apart(0, 0, " + wrong + ")", tree.apart(0, 0, wrong), KeyedTree.OUTSIDE);
            TALLY.due("differs(" + wrong + ", 0, 0)", tree.differs(wrong, 0, 0), KeyedTree.UNKNOWN);
            TALLY.due("differs(0, " + wrong + ", 0)", tree.differs(0, wrong, 0), KeyedTree.UNKNOWN);
        }
        TALLY.due("apart(0, 0, 3)", tree.apart(0, 0, 3), KeyedTree.OUTSIDE);
    }

    private static void differs() {
        KeyedTree tree = Talk.put(Talk.with(0, 0, 3, 49), 1, 3, 4);
        int[] want = {0, 4, 49, NONE};
        for (int i = 0; i < want.length; i++) {
            TALLY.due("differs(0, 1, " + i + ")", tree.differs(0, 1, i), want[i]);
            TALLY.due("differs(1, 0, " + i + ")", tree.differs(1, 0, i), want[i]);
        }
        int[] none = {-1, -6, 50, Integer.MIN_VALUE, Integer.MAX_VALUE};
        for (int i : none) {
            TALLY.due("differs(0, 1, " + i + ")", tree.differs(0, 1, i), NONE);
        }
        TALLY.due("differs from itself", tree.differs(0, 0, 0), NONE);
    }
}
