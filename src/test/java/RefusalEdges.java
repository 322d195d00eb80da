/** Which refusal is told where two fit, and that calls that are refused, and calls that only ask, change nothing. */
final class RefusalEdges {
    private static final int UNKNOWN = KeyedTree.UNKNOWN;
    private static final int OUTSIDE = KeyedTree.OUTSIDE;
    private static final int STATE = KeyedTree.STATE;
    private static final int FULL = KeyedTree.FULL;
    private static final int NO = KeyedTree.NO;
    private static final int NONE = KeyedTree.NONE;
    private static final int MIN = Integer.MIN_VALUE;
    private static final int MAX = Integer.MAX_VALUE;

    private RefusalEdges() {
    }

    static void hold(Sentences s) {
        firstOfThoseThatFit(s);
        unknownChangesNothing(s);
        outsideChangesNothing(s);
        noAndStateChangeNothing(s);
        fullChangesNothing(s);
        askingChangesNothing(s);
        signThatIsSaidChangesTheFault(s);
    }

    /** Each row fits two refusals at least; each call of two refusals that can fit at once has one. */
    private static void firstOfThoseThatFit(Sentences s) {
        s.of("Terms", "Calls that are refused answer, the first of these that fits: UNKNOWN -1 (there is no such SET, KEY), "
            + "OUTSIDE -2 (another number is not as told), NO -5 (as told), STATE -3 (as told), FULL -4; "
            + "where a call names them in another order, in that.");
        // A has 40 keys, there are 60 signs and 8 sights.
        s.all(Makes.full(), "put(0, 50, true)", UNKNOWN, "put(4, 40, true)", UNKNOWN, "put(-1, -1, true)", UNKNOWN, "put(0, 40, true)", FULL,
            "say(32)", OUTSIDE, "say(127)", OUTSIDE, "say(33)", FULL, "above(50, 50)", UNKNOWN, "above(-1, 0)", UNKNOWN,
            "above(0, 50)", UNKNOWN, "above(5, 5)", OUTSIDE, "above(5, 6)", FULL, "orders(4)", UNKNOWN, "orders(0)", STATE);
        // The signs have a fault, and an act ahead of it can not be.
        s.all(Makes.faulty(), "judge(-1)", OUTSIDE, "judge(3)", OUTSIDE, "judge(0)", NO, "judge(1)", NO, "judge(2)", NO,
            "behind(4, 4)", UNKNOWN, "behind(-1, 0)", UNKNOWN, "behind(0, 4)", OUTSIDE, "behind(0, -1)", OUTSIDE, "behind(0, 0)", NO,
            "alike(3)", OUTSIDE, "alike(-1)", OUTSIDE, "alike(0)", NO, "alike(2)", NO, "done()", NO);
        s.all(Makes.stuck(), "judge(3)", OUTSIDE, "judge(2)", STATE, "behind(4, 4)", UNKNOWN, "behind(4, 0)", UNKNOWN,
            "behind(0, 4)", OUTSIDE, "behind(0, 0)", STATE, "alike(3)", OUTSIDE, "alike(0)", STATE, "done()", STATE);
        // Key 6 is in no set.
        s.all(Makes.some(), "node(4, 50, 7)", UNKNOWN, "node(4, 6, 7)", UNKNOWN, "node(4, 6, 0)", UNKNOWN, "node(0, 50, 7)", UNKNOWN,
            "node(0, 50, 0)", UNKNOWN, "node(0, 6, 7)", OUTSIDE, "node(0, 6, -1)", OUTSIDE, "node(0, 6, 0)", STATE,
            "apart(4, 0, 3)", UNKNOWN, "apart(0, 4, 3)", UNKNOWN, "apart(-1, -1, -1)", UNKNOWN, "apart(0, 0, 3)", OUTSIDE,
            "restore(2)", OUTSIDE, "restore(-1)", OUTSIDE, "restore(1)", STATE);
    }

    private static void unknownChangesNothing(Sentences s) {
        s.of("Terms", "They change nothing");
        String[] noSet = {"put(#, 0, true)", "put(#, 5, false)", "behind(#, 0)", "node(#, 5, 0)", "place(#, 5)", "at(#, 0)",
            "apart(#, 0, 0)", "apart(0, #, 1)", "differs(#, 0, 0)", "differs(0, #, 0)", "orders(#)"};
        String[] noKey = {"put(0, #, true)", "put(3, #, false)", "node(0, #, 0)", "place(0, #)", "above(#, 0)", "above(0, #)", "above(#, #)"};
        for (Sentences.Make make : Makes.all()) {
            for (String call : noSet) {
                s.leaves(make, call, UNKNOWN, -1, 4, MIN, MAX);
            }
            for (String call : noKey) {
                s.leaves(make, call, UNKNOWN, -1, 50, MIN, MAX);
            }
        }
    }

    private static void outsideChangesNothing(Sentences s) {
        s.of("Terms", "They change nothing");
        for (Sentences.Make make : Makes.all()) {
            s.leaves(make, "seed(#)", OUTSIDE, -1, 10000, MIN, MAX);
            s.leaves(make, "say(#)", OUTSIDE, 32, 127, MIN, MAX);
            s.leaves(make, "judge(#)", OUTSIDE, -1, 3, MIN, MAX);
            s.leaves(make, "behind(0, #)", OUTSIDE, -1, 4, MIN, MAX);
            s.leaves(make, "alike(#)", OUTSIDE, -1, 3, MIN, MAX);
            s.leaves(make, "node(0, 5, #)", OUTSIDE, -1, 7, MIN, MAX);
            s.leaves(make, "apart(0, 1, #)", OUTSIDE, -1, 3, MIN, MAX);
            s.leaves(make, "above(#, #)", OUTSIDE, 0, 49);
            s.leaves(make, "shapes(#)", OUTSIDE, -1, 31, MIN, MAX);
            s.leaves(make, "deep(#, 0, 0)", KeyedTree.GONE + OUTSIDE, 0, 21, MIN, MAX);
            s.leaves(make, "deep(5, #, 0)", KeyedTree.GONE + OUTSIDE, -1, 5, MIN, MAX);
            s.leaves(make, "deep(5, 0, #)", KeyedTree.GONE + OUTSIDE, -1, 2, MIN, MAX);
            s.leaves(make, "run(#, 1, 0)", OUTSIDE, -1, 10000, MIN, MAX);
            s.leaves(make, "run(0, #, 0)", OUTSIDE, 0, 100, MIN, MAX);
            s.leaves(make, "run(0, 1, #)", OUTSIDE, -1, 3, MIN, MAX);
            s.leaves(make, "image(#)", OUTSIDE, -1, 2, MIN, MAX);
            s.leaves(make, "restore(#)", OUTSIDE, -1, 2, MIN, MAX);
            s.leaves(make, "told(#)", OUTSIDE, -1, 3, 14, 24, 99, 150, 450, 500, MIN, MAX);
        }
    }

    private static void noAndStateChangeNothing(Sentences s) {
        s.of("Terms", "They change nothing");
        for (int set = 0; set < 4; set++) {
            s.leaves(Makes::faulty, "behind(" + set + ", #)", NO, 0, 1, 2, 3);
            s.leaves(Makes::stuck, "behind(" + set + ", #)", STATE, 0, 1, 2, 3);
        }
        s.leaves(Makes::faulty, "judge(#)", NO, 0, 1, 2);
        s.leaves(Makes::faulty, "alike(#)", NO, 0, 1, 2);
        s.leaves(Makes::faulty, "done()", NO);
        s.leaves(Makes::stuck, "judge(2)", STATE);
        s.leaves(Makes::stuck, "alike(#)", STATE, 0, 1, 2);
        s.leaves(Makes::stuck, "done()", STATE);
        s.leaves(Makes::some, "node(0, 6, #)", STATE, 0, 1, 2, 3, 4, 5, 6);
        s.leaves(Makes::full, "orders(#)", STATE, 0, 1, 2, 3);
        s.leaves(Makes::empty, "restore(#)", STATE, 0, 1);
        s.leaves(Makes::some, "restore(1)", STATE);
    }

    private static void fullChangesNothing(Sentences s) {
        s.of("Terms", "They change nothing");
        s.leaves(Makes::full, "put(0, #, true)", FULL, 40, 49);
        s.leaves(Makes::full, "put(3, #, true)", FULL, 0, 9);
        s.leaves(Makes::full, "say(#)", FULL, 33, 65, 126);
        s.leaves(Makes::full, "above(#, 7)", FULL, 0, 20, 49);
    }

    /** These are not refused; yet they ask and do nothing. */
    private static void askingChangesNothing(Sentences s) {
        s.of("Promise 7: judge", "JUDGED: the ACT (what = 0), why (1); NONE; WORK (2).");
        String[] calls = {"fault()", "judge(0)", "judge(1)", "judge(2)", "behind(0, 0)", "behind(1, 1)", "behind(2, 2)", "behind(3, 3)",
            "alike(0)", "alike(1)", "alike(2)", "node(0, 5, 0)", "node(0, 5, 4)", "node(3, 30, 5)", "node(1, 49, 6)", "place(0, 49)",
            "at(0, 0)", "at(0, 40)", "at(3, -1)", "apart(0, 1, 0)", "apart(0, 1, 1)", "apart(1, 0, 2)", "differs(0, 1, 0)",
            "differs(0, 1, 50)", "seeds(-1)", "seeds(0)", "seeds(9999)", "seeds(10000)", "orders(0)", "orders(2)", "shapes(30)",
            "deep(20, 0, 0)", "run(0, 99, 0)", "told(0)", "told(20)", "told(105)"};
        for (Sentences.Make make : Makes.all()) {
            for (String call : calls) {
                s.leaves(make, call);
            }
        }
        // What changes nothing since it is so already.
        s.leaves(Makes::full, "put(0, 39, true)", 40);
        s.leaves(Makes::full, "put(0, 40, false)", 40);
        s.leaves(Makes::full, "seed(9999)", 9999);
        s.leaves(Makes::some, "seed(77)", 77);
        s.leaves(Makes::empty, "wipe()", 0);
        s.leaves(Makes::empty, "forget()", 0);
        s.leaves(Makes::empty, "done()", 0);
        s.leaves(Makes::empty, "put(0, 0, false)", 0);
    }

    private static void signThatIsSaidChangesTheFault(Sentences s) {
        s.of("Terms", "(a sign that is said changes what fault() tells).");
        s.all(new KeyedTree(), "fault()", NONE, "say(65)", 1, "fault()", 1, "say(127)", OUTSIDE, "fault()", 1, "say(61)", 2, "fault()", 2,
            "say(32)", OUTSIDE, "fault()", 2, "say(66)", 3, "fault()", NONE, "say(126)", 4, "fault()", 3, "say(65)", 5, "fault()", 3);
        KeyedTree full = Talk.pad(new KeyedTree(), "!".repeat(59));
        s.all(full, "fault()", NONE, "say(65)", 60, "fault()", 60, "say(61)", FULL, "fault()", 60, "told(0)", 60);
    }
}
