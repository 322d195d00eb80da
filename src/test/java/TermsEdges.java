/** The edges of the terms that all promises share: calls, refusals, fractions, keys, seeds, ranks, sets, trees. */
final class TermsEdges {
    private static final int UNKNOWN = KeyedTree.UNKNOWN;
    private static final int OUTSIDE = KeyedTree.OUTSIDE;
    private static final int NONE = KeyedTree.NONE;
    private static final int MIN = Integer.MIN_VALUE;
    private static final int MAX = Integer.MAX_VALUE;

    private TermsEdges() {
    }

    static void hold(Sentences s) {
        objectIsUsedFor512Calls(s);
        setHasOneTree(s);
        constantsAreAsTold(s);
        fractionsAreInLowestTerms(s);
        keysAre0To49(s);
        seedIs0To9999(s);
        priorityIsLeftOverBy10007(s);
        greaterPriorityRanksAbove(s);
        lesserKeyRanksAboveIfTied(s);
        setsAre0To3(s);
        setsHaveUpTo40Keys(s);
        rootRanksHighest(s);
        treeOfAKeyIsWithinTheTreeOfTheSet(s);
        digestOfNoKeysIs0(s);
        digestIsLeftOverBy999983(s);
    }

    private static void objectIsUsedFor512Calls(Sentences s) {
        s.of("What it is", "An object is used for at most 512 calls after it has been made; what later calls answer is free.");
        String[] last = {"seed(9999)", "put(0, 49, true)", "say(126)", "wipe()", "fault()", "judge(2)", "behind(3, 1)", "alike(0)",
            "done()", "node(0, 5, 4)", "place(0, 49)", "at(0, 1)", "apart(0, 1, 1)", "differs(0, 1, 1)", "above(0, 49)", "forget()",
            "seeds(-1)", "orders(0)", "shapes(30)", "deep(20, 19, 0)", "run(9999, 99, 0)", "image(1)", "restore(0)", "told(20)"};
        int names = 0;
        for (String name : Sentences.names()) {
            names++;
            s.must(name + " is among the last calls", String.join(" ", last).contains(name + "("));
        }
        s.due("calls of the face", names, last.length);
        for (String call : last) {
            KeyedTree tree = Makes.some();
            // Makes.some has taken 28 calls: 483 more, and this one is the 512th.
            for (int i = 0; i < 483; i++) {
                tree.told(0);
            }
            s.due(tree, call, Sentences.call(Makes.some(), call));
        }
        KeyedTree tree = new KeyedTree();
        for (int i = 0; i < 512; i++) {
            s.due("seed as call " + i, tree.seed(19 * i), i == 0 ? 0 : 19 * (i - 1));
        }
    }

    private static void setHasOneTree(Sentences s) {
        s.of("What it is", "so a set has one tree, in whatever order its keys came and went, and one digest, told from the bottom up");
        KeyedTree tree = Talk.with(0, 0, 1, 2, 3, 4, 5);
        Talk.put(tree, 1, 5, 4, 3, 2, 1, 0);
        Talk.put(tree, 2, 49, 3, 0, 20, 5, 1, 12, 4, 2);
        tree.put(2, 20, false);
        tree.put(2, 12, false);
        tree.put(2, 49, false);
        for (int set = 0; set < 3; set++) {
            s.due("digest of " + set, tree.told(20 + set), 122142);
        }
        Talk.pad(tree, "B~AB|CB/03DB&D");
        s.all(tree, "done()", 4, "told(21)", 122142, "told(23)", 0);
        tree.seed(9);
        tree.seed(0);
        s.due("digest after another seed", tree.told(20), 122142);
    }

    private static void constantsAreAsTold(Sentences s) {
        s.of("Terms", "UNKNOWN = -1, OUTSIDE = -2, STATE = -3, FULL = -4, NO = -5, NONE = -6");
        s.of("Terms", "What refused calls answer; NONE: there is none.");
        KeyedTree tree = Makes.full();
        s.all(tree, "put(4, 0, true)", -1, "seed(10000)", -2, "orders(0)", -3, "say(65)", -4, "at(0, 40)", -6);
        s.all(Makes.faulty(), "judge(0)", -5);
        s.of("Terms", "What is told of fractions that are refused: GONE and the refusal.");
        s.due(tree, "deep(0, 0, 0)", -1000000000000000002L);
        s.of("Terms", "GONE = -1000000000000000000L");
        s.due("GONE", KeyedTree.GONE, -1000000000000000000L);
    }

    private static void fractionsAreInLowestTerms(Sentences s) {
        s.of("Terms", "Fractions are told in lowest terms by part: 0 the upper, 1 the lower number;");
        KeyedTree tree = new KeyedTree();
        for (int n = 1; n <= 20; n++) {
            for (int i = 0; i < n; i++) {
                tree = i == 0 ? new KeyedTree() : tree;
                long upper = tree.deep(n, i, 0);
                long lower = tree.deep(n, i, 1);
                s.must("deep(" + n + ", " + i + ") has a lower number above 0", lower > 0);
                s.due("common divisor of deep(" + n + ", " + i + ")", divisor(upper, lower), 1);
            }
        }
        s.all(tree, "deep(3, 0, 0)", 5, "deep(3, 0, 1)", 6, "deep(3, 1, 0)", 1, "deep(3, 1, 1)", 1, "deep(1, 0, 0)", 0, "deep(1, 0, 1)", 1);
        s.of("Terms", "refused with GONE and the refusal.");
        s.each(tree, "deep(20, 0, #)", KeyedTree.GONE + OUTSIDE, -1, 2, MIN, MAX);
    }

    private static long divisor(long one, long other) {
        return other == 0 ? one : divisor(other, one % other);
    }

    private static void keysAre0To49(Sentences s) {
        s.of("Terms", "KEYS are 0 to 49.");
        KeyedTree tree = new KeyedTree();
        s.all(tree, "put(0, 0, true)", 1, "put(0, 49, true)", 2, "node(0, 0, 3)", 1, "node(0, 49, 3)", 2, "place(0, 0)", 0,
            "place(0, 49)", 1, "above(0, 49)", 1, "above(49, 0)", 2, "told(100)", 1, "told(149)", 1, "put(0, 0, false)", 1,
            "put(0, 49, false)", 0);
        int[] none = {-1, 50, MIN, MAX};
        s.each(tree, "put(0, #, true)", UNKNOWN, none);
        s.each(tree, "put(0, #, false)", UNKNOWN, none);
        s.each(tree, "node(0, #, 0)", UNKNOWN, none);
        s.each(tree, "place(0, #)", UNKNOWN, none);
        s.each(tree, "above(#, 1)", UNKNOWN, none);
        s.each(tree, "above(1, #)", UNKNOWN, none);
        s.each(tree, "told(#)", OUTSIDE, 99, 150, 199, 250, 299, 350, 399, 450);
    }

    private static void seedIs0To9999(Sentences s) {
        s.of("Terms", "The SEED is 0 to 9999 (0 at first).");
        KeyedTree tree = new KeyedTree();
        s.all(tree, "told(1)", 0, "alike(2)", 0, "run(2, 1, 2)", 0, "seed(9999)", 0, "told(1)", 9999, "seed(0)", 9999, "told(1)", 0,
            "seed(1)", 0, "seed(9998)", 1);
        s.each(tree, "seed(#)", OUTSIDE, -1, 10000, 10006, 10007, MIN, MAX);
        s.due(tree, "told(1)", 9998);
    }

    private static void priorityIsLeftOverBy10007(Sentences s) {
        s.of("Terms", "The PRIORITY of a KEY: x is the SEED and 131 times the KEY, left over by 10007; "
            + "it is x times x, left over by 10007.");
        // Rows of a seed, a key and its priority: x is 0, 1, 100, 101, 10006, 10007, 10008, and the greatest that there is.
        int[][] rows = {{0, 0, 0}, {1, 0, 1}, {100, 0, 10000}, {101, 0, 194}, {9875, 1, 1}, {9876, 1, 0}, {9877, 1, 1},
            {9999, 0, 64}, {3587, 49, 1}, {3588, 49, 0}, {3589, 49, 1}, {9999, 49, 2172}, {794, 0, 10002}, {0, 5, 8731}};
        for (int[] row : rows) {
            KeyedTree tree = Talk.with(0, row[1]);
            tree.seed(row[0]);
            s.due("priority of key " + row[1] + " by seed " + row[0], tree.node(0, row[1], 6), row[2]);
        }
    }

    private static void greaterPriorityRanksAbove(Sentences s) {
        s.of("Terms", "Of two KEYS that of greater PRIORITY RANKS above the other one;");
        KeyedTree tree = Talk.with(0, 2, 5);
        s.all(tree, "node(0, 2, 6)", 8602, "node(0, 5, 6)", 8731, "node(0, 2, 0)", 5, "node(0, 5, 0)", NONE, "seed(1)", 0,
            "node(0, 2, 6)", 9127, "node(0, 5, 6)", 35, "node(0, 5, 0)", 2, "node(0, 2, 0)", NONE);
        // By seed 9876 key 1 is of priority 0 and all others rank above it; by seed 794 key 0 is of the greatest, 10002.
        tree = Talk.put(Talk.with(0, 0, 1, 49), 1, 0, 25, 49);
        s.all(tree, "seed(9876)", 0, "node(0, 1, 3)", 1, "seed(794)", 9876, "behind(0, 2)", 0, "behind(1, 2)", 0);
    }

    /** By seed 1794 keys k and 49 - k are of as great a priority, each of them. */
    private static void lesserKeyRanksAboveIfTied(Sentences s) {
        s.of("Terms", "of as great a PRIORITY the lesser KEY does.");
        for (int key = 0; key < 25; key++) {
            KeyedTree tree = Talk.with(0, 49 - key, key);
            tree.seed(1794);
            s.due("priorities of " + key + " and its like", tree.node(0, key, 6), tree.node(0, 49 - key, 6));
            s.all(tree, "behind(0, 2)", key, "node(0, " + (49 - key) + ", 0)", key, "node(0, " + key + ", 2)", 49 - key);
        }
        KeyedTree tree = Talk.put(Talk.with(0, 0), 1, 49);
        s.all(tree, "seed(1794)", 0, "apart(0, 1, 1)", 3, "above(49, 0)", 1);
        int seeds = tree.seeds(-1);
        s.must("1794 is no seed by which 49 ranks above 0", !hasSeed(tree, seeds, 1794));
        tree.forget();
        tree.above(0, 49);
        s.due("all other seeds", tree.seeds(-1), 10000 - seeds);
        s.must("1794 is a seed by which 0 ranks above 49", hasSeed(tree, 10000 - seeds, 1794));
    }

    static boolean hasSeed(KeyedTree tree, int seeds, int seed) {
        int low = 0;
        int high = seeds;
        while (low < high) {
            int middle = (low + high) / 2;
            if (tree.seeds(middle) < seed) {
                low = middle + 1;
            } else {
                high = middle;
            }
        }
        return tree.seeds(low) == seed;
    }

    private static void setsAre0To3(Sentences s) {
        s.of("Terms", "SETS 0 to 3 (A to D)");
        KeyedTree tree = Talk.pad(new KeyedTree(), "A+10B+21C+32D+43");
        s.all(tree, "done()", 4, "told(110)", 1, "told(221)", 1, "told(332)", 1, "told(443)", 1, "told(10)", 1, "told(11)", 1,
            "told(12)", 1, "told(13)", 1);
        int[] none = {-1, 4, MIN, MAX};
        String[] calls = {"put(#, 0, true)", "put(#, 0, false)", "behind(#, 0)", "node(#, 0, 0)", "place(#, 0)", "at(#, 0)",
            "apart(#, 0, 0)", "apart(0, #, 0)", "differs(#, 0, 0)", "differs(0, #, 0)", "orders(#)"};
        for (String call : calls) {
            s.each(tree, call, UNKNOWN, none);
            for (int set = 0; set < 4; set++) {
                String there = call.replace("#", "" + set);
                s.must(there + " knows its set", Sentences.call(new KeyedTree(), there) != UNKNOWN);
            }
        }
        s.each(tree, "told(#)", OUTSIDE, 9, 14, 19, 24, 500, 549);
        String[] letters = {"@", "E", "a", "d"};
        for (String letter : letters) {
            s.due(letter + " is no set", Talk.pad(new KeyedTree(), letter).fault(), 0);
            s.due("A=" + letter, Talk.pad(new KeyedTree(), "A=" + letter).fault(), 2);
        }
    }

    private static void setsHaveUpTo40Keys(Sentences s) {
        s.of("Terms", "have up to 40 KEYS each (none, at first).");
        for (int set = 0; set < 4; set++) {
            KeyedTree tree = new KeyedTree();
            s.all(tree, "told(1" + set + ")", 0, "at(" + set + ", 0)", NONE);
            for (int i = 1; i <= 40; i++) {
                s.due("key " + i + " of set " + set, tree.put(set, 50 - i, true), i);
            }
            s.each(tree, "put(" + set + ", #, true)", KeyedTree.FULL, 0, 1, 9);
            s.all(tree, "told(1" + set + ")", 40, "at(" + set + ", 39)", 49, "at(" + set + ", 40)", NONE);
            int other = (set + 1) % 4;
            s.due("the next set has room", Talk.fill(tree, other, 0, 38).put(other, 49, true), 40);
            s.due(tree, "told(1" + set + ")", 40);
        }
    }

    /** By seed 11 these keys rank the higher the greater they are, by seed 1018 the others the lower. */
    private static void rootRanksHighest(Sentences s) {
        s.of("Terms", "The TREE of some KEYS: its ROOT is the one that RANKS highest;");
        int[] rising = {0, 1, 7, 8, 14, 15, 21, 22, 28, 29, 39, 44, 47, 48};
        int[] falling = {1, 2, 4, 10, 20, 21, 27, 28, 34, 35, 41, 42, 48, 49};
        KeyedTree up = Talk.with(0, rising);
        up.seed(11);
        KeyedTree down = Talk.with(0, falling);
        down.seed(1018);
        s.all(up, "behind(0, 2)", 48, "behind(0, 3)", 14);
        s.all(down, "behind(0, 2)", 1, "behind(0, 3)", 14);
        s.of("Terms", "its LEFT is the TREE of those that are less than that, its RIGHT the TREE of those that are greater.");
        for (int i = 0; i < 14; i++) {
            String risen = "node(0, " + rising[i] + ", ";
            s.all(up, risen + "1)", i == 0 ? NONE : rising[i - 1], risen + "2)", NONE, risen + "3)", i + 1, risen + "5)", 13 - i);
            String fallen = "node(0, " + falling[i] + ", ";
            s.all(down, fallen + "1)", NONE, fallen + "2)", i == 13 ? NONE : falling[i + 1], fallen + "3)", 14 - i, fallen + "5)", i);
        }
    }

    private static void treeOfAKeyIsWithinTheTreeOfTheSet(Sentences s) {
        s.of("Terms", "The TREE of a KEY in a SET is that of which it is the ROOT, within the TREE of the SET.");
        // By seed 0 the ranks are 5, 2, 1, 4, 3, 0: 2 has all but 5 below it, if they are in.
        KeyedTree tree = Talk.fill(Talk.put(new KeyedTree(), 1, 2, 5), 0, 0, 5);
        Talk.put(tree, 2, 2, 3, 20);
        s.all(tree, "node(0, 2, 3)", 5, "node(1, 2, 3)", 1, "node(2, 2, 3)", 2, "node(0, 5, 3)", 6, "node(1, 5, 3)", 2,
            "node(1, 2, 4)", 23758, "node(0, 2, 4)", 357240);
    }

    private static void digestOfNoKeysIs0(Sentences s) {
        s.of("Terms", "The DIGEST of a TREE is 0 if there are no KEYS;");
        KeyedTree tree = new KeyedTree();
        for (int set = 0; set < 4; set++) {
            s.all(tree, "told(2" + set + ")", 0, "behind(" + set + ", 1)", 0);
        }
        Talk.put(tree, 0, 49);
        tree.put(0, 49, false);
        s.due(tree, "told(20)", 0);
    }

    private static void digestIsLeftOverBy999983(Sentences s) {
        s.of("Terms", "else 1 and what is left over by 999983 of 31 times the DIGEST of its LEFT, 57 times that of its RIGHT, "
            + "and 7919 times the ROOT and 1, added.");
        KeyedTree tree = Talk.put(Talk.put(Talk.with(0, 0), 1, 49), 2, 2, 5);
        s.all(tree, "told(20)", 1 + 7919, "told(21)", 1 + 7919 * 50, "told(22)", 1 + 31 * 23758 + 7919 * 6,
            "seed(1)", 0, "told(22)", 1 + (57 * 47515 + 7919 * 3) - 2 * 999983);
        // Sums of 11 times 999983, and of 3 times that less 1: the least and the greatest digest of some keys.
        KeyedTree least = Talk.with(0, 12, 21, 37, 47);
        s.all(least, "seed(2)", 0, "told(20)", 1, "behind(0, 1)", 1);
        s.due("digest of its root", least.node(0, least.behind(0, 2), 4), 1);
        KeyedTree greatest = Talk.with(3, 3, 25, 32, 40);
        s.all(greatest, "seed(21)", 0, "told(23)", 999983, "behind(3, 1)", 999983);
    }
}
