/** The edges of what acts come to (terms, part 2), and of promises 2 to 10. */
final class ActsEdges {
    private static final int UNKNOWN = KeyedTree.UNKNOWN;
    private static final int OUTSIDE = KeyedTree.OUTSIDE;
    private static final int STATE = KeyedTree.STATE;
    private static final int FULL = KeyedTree.FULL;
    private static final int NO = KeyedTree.NO;
    private static final int NONE = KeyedTree.NONE;
    private static final int MIN = Integer.MIN_VALUE;
    private static final int MAX = Integer.MAX_VALUE;

    private ActsEdges() {
    }

    static void hold(Sentences s) {
        newObject(s);
        seed(s);
        put(s);
        say(s);
        wipe(s);
        fault(s);
        firstActThatCanNotBe(s);
        workCountsKeysThatWereNotIn(s);
        workCountsKeysWithAnotherTree(s);
        workOfFullSets(s);
        behindASet(s);
        alikeIsTheFirstAct(s);
        alikeIsTheLeastPair(s);
        alikeNeedsOneKey(s);
        doneIsSoThen(s);
        judge(s);
        behind(s);
        alike(s);
        done(s);
    }

    private static void newObject(Sentences s) {
        s.of("Promise 1: A new object", "Four sets without keys.");
        for (int set = 0; set < 4; set++) {
            KeyedTree tree = new KeyedTree();
            s.all(tree, "told(1" + set + ")", 0, "told(2" + set + ")", 0, "at(" + set + ", 0)", NONE, "place(" + set + ", 49)", 0,
                "orders(" + set + ")", 1, "behind(" + set + ", 0)", 0, "behind(" + set + ", 2)", NONE);
            for (int key = 0; key < 50; key++) {
                s.due(tree, "node(" + set + ", " + key + ", 0)", STATE);
                s.due(tree, "told(" + (100 * (set + 1) + key) + ")", 0);
            }
        }
        s.all(new KeyedTree(), "told(0)", 0, "told(1)", 0, "told(2)", 0, "fault()", NONE, "judge(0)", NONE, "judge(1)", NONE,
            "judge(2)", 0, "alike(0)", NONE, "alike(1)", NONE, "alike(2)", 0, "seeds(-1)", 10000, "restore(0)", STATE,
            "restore(1)", STATE, "wipe()", 0, "forget()", 0, "done()", 0);
    }

    private static void seed(Sentences s) {
        s.of("Promise 2: seed", "The SEED: which it was.");
        KeyedTree tree = new KeyedTree();
        s.all(tree, "seed(0)", 0, "seed(1)", 0, "seed(9999)", 1, "seed(9999)", 9999, "seed(9998)", 9999, "seed(0)", 9998, "told(1)", 0);
        Talk.pad(tree, "!");
        s.all(tree, "done()", 1, "seed(5)", 1, "image(0)", 1, "seed(6)", 5, "restore(0)", 1, "seed(7)", 5);
        s.of("Promise 2: seed", "OUTSIDE.");
        s.each(tree, "seed(#)", OUTSIDE, -1, 10000, MIN, MAX);
        s.due(tree, "told(1)", 7);
    }

    private static void put(Sentences s) {
        s.of("Promise 3: put", "A KEY is in a SET, or is not: how many KEYS it has.");
        KeyedTree tree = new KeyedTree();
        s.all(tree, "put(0, 0, false)", 0, "put(0, 0, true)", 1, "put(0, 0, true)", 1, "put(0, 49, true)", 2, "put(0, 49, false)", 1,
            "put(0, 49, false)", 1, "put(0, 0, false)", 0, "put(3, 49, true)", 1, "told(10)", 0, "told(13)", 1, "told(449)", 1);
        s.of("Promise 3: put", "UNKNOWN: both;");
        int[] noSet = {-1, 4, MIN, MAX};
        int[] noKey = {-1, 50, MIN, MAX};
        s.each(tree, "put(#, 0, true)", UNKNOWN, noSet);
        s.each(tree, "put(#, 0, false)", UNKNOWN, noSet);
        s.each(tree, "put(3, #, true)", UNKNOWN, noKey);
        s.each(tree, "put(3, #, false)", UNKNOWN, noKey);
        s.each(tree, "put(4, #, true)", UNKNOWN, noKey);
        s.of("Promise 3: put", "FULL.");
        KeyedTree of39 = Talk.fill(new KeyedTree(), 2, 0, 38);
        s.all(of39, "put(2, 39, true)", 40, "put(2, 40, true)", FULL, "put(2, 49, true)", FULL, "told(12)", 40, "told(340)", 0);
        // A key that is in already makes the set no fuller, and one that is taken out makes room.
        s.all(of39, "put(2, 39, true)", 40, "put(2, 0, true)", 40, "put(2, 40, false)", 40, "put(2, 0, false)", 39,
            "put(2, 49, true)", 40, "put(2, 0, true)", FULL, "put(2, 50, true)", UNKNOWN);
    }

    private static void say(Sentences s) {
        s.of("Promise 4: say", "A sign more: how many.");
        KeyedTree tree = new KeyedTree();
        s.all(tree, "say(33)", 1, "say(126)", 2, "told(0)", 2, "wipe()", 2, "say(33)", 1);
        s.of("Promise 4: say", "OUTSIDE;");
        s.each(tree, "say(#)", OUTSIDE, 32, 127, 0, -1, MIN, MAX, 33 + 256, 33 - 256);
        s.of("Promise 4: say", "FULL.");
        for (int i = 2; i <= 60; i++) {
            s.due("sign " + i, tree.say(65), i);
        }
        s.all(tree, "say(65)", FULL, "say(33)", FULL, "say(126)", FULL, "say(127)", OUTSIDE, "say(32)", OUTSIDE, "told(0)", 60);
    }

    private static void wipe(Sentences s) {
        s.of("Promise 5: wipe", "Signs go: how many there were.");
        s.all(new KeyedTree(), "wipe()", 0, "wipe()", 0, "say(65)", 1, "wipe()", 1, "wipe()", 0, "told(0)", 0, "fault()", NONE);
        KeyedTree tree = Makes.full();
        int digest = tree.told(20);
        s.all(tree, "wipe()", 60, "told(0)", 0, "judge(2)", 0, "say(33)", 1, "fault()", NONE);
        // Signs alone go.
        s.all(tree, "told(10)", 40, "told(20)", digest, "told(1)", 9999, "told(2)", 8, "restore(0)", 1);
        s.all(Makes.faulty(), "fault()", 4, "wipe()", 5, "fault()", NONE);
    }

    private static void fault(Sentences s) {
        s.of("Promise 6: fault", "THE FAULT; NONE.");
        KeyedTree tree = new KeyedTree();
        s.all(tree, "fault()", NONE, "say(65)", 1, "fault()", 1, "say(43)", 2, "fault()", 2, "say(52)", 3, "fault()", 3, "say(57)", 4,
            "fault()", NONE, "say(53)", 5, "fault()", 4, "say(65)", 6, "fault()", 4, "wipe()", 6, "fault()", NONE);
        // What can not be is no fault.
        s.due(Talk.pad(tree, "A-00A=A"), "fault()", NONE);
    }

    private static void judged(Sentences s, KeyedTree tree, String text, int act, int why) {
        Talk.pad(tree, text);
        s.due("judge(0) of " + text, tree.judge(0), act);
        s.due("judge(1) of " + text, tree.judge(1), why);
    }

    private static void firstActThatCanNotBe(Sentences s) {
        s.of("Terms", "JUDGED: the first ACT (from 0 on) that can not be, why;");
        judged(s, new KeyedTree(), "", NONE, NONE);
        judged(s, new KeyedTree(), "A+00A-00", NONE, NONE);
        judged(s, new KeyedTree(), "A-00", 0, 2);
        judged(s, new KeyedTree(), "A-00A=A", 0, 2);
        judged(s, new KeyedTree(), "A=AA-00", 0, 1);
        judged(s, new KeyedTree(), "!A+00B=AB-01", 3, 2);
        KeyedTree late = new KeyedTree();
        late.seed(9940);
        judged(s, late, "!".repeat(60), 59, 6);
        // Each act is judged by what those ahead of it have come to.
        judged(s, Talk.with(0, 5), "A-05A+05A-05A-05", 3, 2);
        judged(s, Talk.put(Talk.with(0, 5), 1, 4), "B/00CA&BA&C", 2, 5);
    }

    private static void work(Sentences s, KeyedTree tree, String text, int want) {
        Talk.pad(tree, text);
        s.due("work of " + text, tree.judge(2), want);
    }

    private static void workCountsKeysThatWereNotIn(Sentences s) {
        s.of("Terms", "the WORK of all: for each ACT, how many KEYS are in the SETS behind it (counted in each SET) "
            + "that were not in that SET ahead of it,");
        work(s, new KeyedTree(), "", 0);
        work(s, new KeyedTree(), "A+00", 1);
        work(s, new KeyedTree(), "A+49B+49C+49D+49", 4);
        work(s, Talk.with(0, 49), "A-49", 0);
        work(s, Talk.with(0, 49), "A-49A+49", 1);
        work(s, Talk.with(0, 2, 5), "B=A", 2);
        work(s, Talk.with(0, 2, 5), "B=AC=AD=A", 6);
        work(s, Talk.with(0, 2, 5), "A/00B", 2);
        work(s, Talk.with(0, 2, 5), "A/06B", 0);
        work(s, Talk.with(0, 2, 5), "B&A", 2);
        work(s, Talk.with(0, 2, 5), "A&B", 0);
        work(s, new KeyedTree(), "A&BA=BA|BA~BA/00B!", 0);
    }

    /** By seed 0 the ranks are 5, 2, 1, 4, 3, 0; by seed 1 key 2 ranks above 5. */
    private static void workCountsKeysWithAnotherTree(Sentences s) {
        s.of("Terms", "or whose TREE there had other KEYS ahead of it.");
        work(s, Talk.with(0, 5), "A+02", 2);
        work(s, Talk.with(0, 2), "A+05", 1);
        work(s, Talk.with(0, 2, 5), "A-02", 1);
        work(s, Talk.with(0, 2, 5), "A-05", 0);
        work(s, Talk.with(0, 2, 5), "A/05B", 1);
        work(s, Talk.with(0, 2, 5), "A/03B", 1);
        work(s, Talk.put(Talk.with(0, 2), 1, 5), "A&B", 1);
        work(s, Talk.put(Talk.with(0, 5), 1, 2), "B&A", 1);
        work(s, Talk.with(0, 2, 5), "!", 2);
        work(s, Talk.put(Talk.with(0, 2, 5), 3, 2, 5), "!", 4);
        work(s, Talk.with(0, 5), "!!", 0);
        // 2 and 4 and 1: 2 stays above both by seeds 0 and 1, so no tree has other keys.
        work(s, Talk.with(0, 1, 2, 4), "!", 0);
        // A like tree of another set does not count: B has had no key of them.
        work(s, Talk.with(0, 1, 2, 4), "B=A", 3);
        // One digest, other keys: {0, 33} and {1, 2} by seed 0.
        work(s, Talk.put(Talk.with(0, 0, 33), 1, 1, 2), "A=B", 2);
    }

    private static void workOfFullSets(Sentences s) {
        s.of("Terms", "how many KEYS are in the SETS behind it (counted in each SET)");
        work(s, Talk.fill(new KeyedTree(), 0, 0, 39), "B=AC=AD=A", 120);
        work(s, Talk.fill(new KeyedTree(), 0, 10, 49), "D&A", 40);
        work(s, Talk.fill(Talk.fill(new KeyedTree(), 0, 0, 39), 1, 0, 39), "A|BA~BA|B", 40);
        KeyedTree tree = Talk.pad(Makes.full(), "");
        Model model = new Model();
        for (int key = 0; key < 40; key++) {
            for (int set = 0; set < 4; set++) {
                model.put(set, set % 2 == 0 ? key : 10 + key, true);
            }
        }
        tree.seed(5000);
        model.seed(5000);
        for (int i = 0; i < 60; i++) {
            model.say('!');
        }
        work(s, tree, "!".repeat(60), model.judge(2));
    }

    private static void behindASet(Sentences s) {
        s.of("Terms", "BEHIND: of a SET how many KEYS, the DIGEST, the ROOT (NONE), how many KEYS the longest way from the ROOT down has.");
        KeyedTree tree = Talk.pad(Talk.with(0, 49), "A-49B+00");
        s.all(tree, "behind(0, 0)", 0, "behind(0, 1)", 0, "behind(0, 2)", NONE, "behind(0, 3)", 0,
            "behind(1, 0)", 1, "behind(1, 1)", 7920, "behind(1, 2)", 0, "behind(1, 3)", 1, "told(10)", 1, "told(11)", 0);
        // By seed 190 the tree of keys 0 to 39 is 15 deep, by seed 21 it is 7 deep.
        KeyedTree deep = Talk.fill(new KeyedTree(), 3, 0, 39);
        s.all(deep, "seed(190)", 0, "behind(3, 0)", 40, "behind(3, 3)", 15, "seed(21)", 190, "behind(3, 3)", 7, "behind(2, 3)", 0);
        KeyedTree seeds = Talk.pad(Talk.with(0, 2, 5), "!");
        s.all(seeds, "behind(0, 2)", 2, "done()", 1, "behind(0, 2)", 2, "seed(0)", 1, "behind(0, 2)", 5);
    }

    private static void alikes(Sentences s, KeyedTree tree, String text, int act, int pair) {
        Talk.pad(tree, text);
        s.due("alike(0) of " + text, tree.alike(0), act);
        s.due("alike(1) of " + text, tree.alike(1), pair);
    }

    private static void alikeIsTheFirstAct(Sentences s) {
        s.of("Terms", "ALIKE: the first ACT behind which two SETS have the same KEYS, one at least, that had not ahead of it;");
        alikes(s, Talk.with(0, 5), "B=A", 0, 1);
        alikes(s, Talk.with(0, 5), "!!B+05", 2, 1);
        alikes(s, Talk.with(0, 5), "B+05C+05", 0, 1);
        alikes(s, new KeyedTree(), "!".repeat(50) + "D+07C+07", 51, 23);
        // They had the same keys ahead of it: no act makes them alike, until they have been unlike.
        KeyedTree twins = Talk.put(Talk.with(0, 5), 1, 5);
        alikes(s, twins, "", NONE, NONE);
        alikes(s, twins, "!C+09", NONE, NONE);
        alikes(s, twins, "A-05A+05", 1, 1);
        alikes(s, twins, "A+06A-06", 1, 1);
        alikes(s, twins, "A=B", NONE, NONE);
        // One digest is not the same keys.
        alikes(s, Talk.put(Talk.with(0, 0, 33), 1, 1), "B+02", NONE, NONE);
        KeyedTree full = Talk.fill(new KeyedTree(), 0, 0, 39);
        alikes(s, full, "D=A", 0, 3);
    }

    private static void alikeIsTheLeastPair(Sentences s) {
        s.of("Terms", "which two, the least (10 times the lesser, and the other); NONE; the SEED.");
        String[] pairs = {"AB", "AC", "AD", "BC", "BD", "CD"};
        int[] numbers = {1, 2, 3, 12, 13, 23};
        for (int i = 0; i < pairs.length; i++) {
            String one = pairs[i].substring(0, 1);
            String other = pairs[i].substring(1);
            alikes(s, new KeyedTree(), one + "+07" + other + "=" + one, 1, numbers[i]);
            alikes(s, new KeyedTree(), other + "+07" + one + "=" + other, 1, numbers[i]);
        }
        // C becomes like A and B, that are alike already; D like all three.
        KeyedTree twins = Talk.put(Talk.with(0, 5), 1, 5);
        alikes(s, twins, "C=B", 0, 2);
        alikes(s, twins, "C=BD=C", 0, 2);
        alikes(s, Talk.put(Talk.put(Talk.with(1, 5), 2, 5), 3, 5), "A=D", 0, 1);
        // One act makes two pairs: B is like C, and D like A.
        alikes(s, Talk.put(Talk.put(Talk.with(0, 5), 1, 4, 5), 2, 4), "B/05D", 0, 3);
        KeyedTree seeds = Talk.pad(new KeyedTree(), "!!");
        s.all(seeds, "alike(2)", 2, "wipe()", 2, "alike(2)", 0, "seed(9999)", 0, "alike(2)", 9999);
    }

    private static void alikeNeedsOneKey(Sentences s) {
        s.of("Terms", "two SETS have the same KEYS, one at least,");
        alikes(s, new KeyedTree(), "A=B", NONE, NONE);
        alikes(s, Talk.with(0, 5), "A-05", NONE, NONE);
        alikes(s, Talk.with(0, 5), "A~BA=B", NONE, NONE);
        alikes(s, Talk.put(Talk.with(0, 5), 1, 5), "A-05B-05", NONE, NONE);
    }

    private static void doneIsSoThen(Sentences s) {
        s.of("Terms", "DONE: it is so then.");
        KeyedTree tree = Makes.some();
        int[] keys = new int[4];
        int[] digests = new int[4];
        for (int set = 0; set < 4; set++) {
            keys[set] = tree.behind(set, 0);
            digests[set] = tree.behind(set, 1);
        }
        s.all(tree, "done()", 4, "told(1)", 78, "told(0)", 0, "told(2)", 2);
        for (int set = 0; set < 4; set++) {
            s.all(tree, "told(1" + set + ")", keys[set], "told(2" + set + ")", digests[set]);
        }
        s.all(tree, "told(101)", 1, "told(205)", 0, "told(305)", 1, "told(349)", 1, "restore(0)", 1, "told(10)", 1, "told(1)", 3);
    }

    private static void judge(Sentences s) {
        s.of("Promise 7: judge", "JUDGED: the ACT (what = 0), why (1); NONE; WORK (2).");
        KeyedTree tree = Talk.pad(new KeyedTree(), "A+00A+00");
        s.all(tree, "judge(0)", 1, "judge(1)", 2, "wipe()", 8, "judge(0)", NONE, "judge(1)", NONE, "judge(2)", 0);
        Talk.pad(tree, "A+00B=A");
        s.all(tree, "judge(0)", NONE, "judge(1)", NONE, "judge(2)", 2, "told(10)", 0);
        s.of("Promise 7: judge", "OUTSIDE;");
        for (Sentences.Make make : Makes.all()) {
            s.each(make.tree(), "judge(#)", OUTSIDE, -1, 3, MIN, MAX);
        }
        s.of("Promise 7: judge", "NO: there is a FAULT;");
        s.all(Makes.faulty(), "judge(0)", NO, "judge(1)", NO, "judge(2)", NO);
        s.all(Talk.pad(tree, "A"), "judge(0)", NO, "judge(1)", NO, "judge(2)", NO);
        s.of("Promise 7: judge", "STATE (2): some ACT can not be.");
        s.all(Makes.stuck(), "judge(0)", 1, "judge(1)", 2, "judge(2)", STATE);
        s.all(Talk.pad(tree, "!!A=A"), "judge(0)", 2, "judge(1)", 1, "judge(2)", STATE);
    }

    private static void behind(Sentences s) {
        s.of("Promise 8: behind", "BEHIND: how many (what = 0), DIGEST (1), ROOT (2; NONE), the longest way (3).");
        KeyedTree tree = Talk.pad(new KeyedTree(), "D+05D+02");
        s.all(tree, "behind(3, 0)", 2, "behind(3, 1)", 784013, "behind(3, 2)", 5, "behind(3, 3)", 2, "behind(0, 0)", 0,
            "behind(0, 1)", 0, "behind(0, 2)", NONE, "behind(0, 3)", 0);
        s.of("Promise 8: behind", "UNKNOWN;");
        for (Sentences.Make make : Makes.all()) {
            s.each(make.tree(), "behind(#, 0)", UNKNOWN, -1, 4, MIN, MAX);
            s.each(make.tree(), "behind(#, 4)", UNKNOWN, -1, 4, MIN, MAX);
        }
        s.of("Promise 8: behind", "OUTSIDE;");
        for (Sentences.Make make : Makes.all()) {
            s.each(make.tree(), "behind(3, #)", OUTSIDE, -1, 4, MIN, MAX);
        }
        s.of("Promise 8: behind", "NO, STATE, as of judge(2).");
        for (int what = 0; what <= 3; what++) {
            s.each(Makes.faulty(), "behind(#, " + what + ")", NO, 0, 1, 2, 3);
            s.each(Makes.stuck(), "behind(#, " + what + ")", STATE, 0, 1, 2, 3);
        }
    }

    private static void alike(Sentences s) {
        s.of("Promise 9: alike", "ALIKE: the ACT (what = 0), which two (1); NONE; the SEED (2).");
        KeyedTree tree = Talk.pad(new KeyedTree(), "!D+05C=D");
        s.all(tree, "alike(0)", 2, "alike(1)", 23, "alike(2)", 1, "wipe()", 8, "alike(0)", NONE, "alike(1)", NONE, "alike(2)", 0);
        s.of("Promise 9: alike", "OUTSIDE;");
        for (Sentences.Make make : Makes.all()) {
            s.each(make.tree(), "alike(#)", OUTSIDE, -1, 3, MIN, MAX);
        }
        s.of("Promise 9: alike", "NO, STATE, likewise.");
        s.each(Makes.faulty(), "alike(#)", NO, 0, 1, 2);
        s.each(Makes.stuck(), "alike(#)", STATE, 0, 1, 2);
        // The two were alike ahead of the act that can not be: it is not told all the same.
        s.each(Talk.pad(Talk.with(0, 5), "B=AB+05"), "alike(#)", STATE, 0, 1, 2);
    }

    private static void done(Sentences s) {
        s.of("Promise 10: done", "ACTS are DONE (the PAD is empty then): how many.");
        s.all(new KeyedTree(), "done()", 0, "told(0)", 0);
        s.all(Talk.pad(new KeyedTree(), "A+00"), "done()", 1, "told(0)", 0, "told(10)", 1, "fault()", NONE, "done()", 0, "told(10)", 1);
        s.all(Makes.full(), "done()", 15, "told(0)", 0, "told(10)", 39, "told(101)", 0, "say(33)", 1);
        s.all(Talk.pad(new KeyedTree(), "!".repeat(60)), "done()", 60, "told(0)", 0, "told(1)", 60);
        s.of("Promise 10: done", "NO, STATE, likewise.");
        s.all(Makes.faulty(), "done()", NO, "told(0)", 5, "done()", NO);
        s.all(Makes.stuck(), "done()", STATE, "told(0)", 9, "told(10)", 3, "told(101)", 0, "told(1)", 77, "done()", STATE);
    }
}
