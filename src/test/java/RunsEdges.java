/** The edges of runs (terms, part 4), and of promises 22 to 25: runs, images, what is told. */
final class RunsEdges {
    private static final int OUTSIDE = KeyedTree.OUTSIDE;
    private static final int STATE = KeyedTree.STATE;
    private static final int NONE = KeyedTree.NONE;
    private static final int MIN = Integer.MIN_VALUE;
    private static final int MAX = Integer.MAX_VALUE;

    private RunsEdges() {
    }

    static void hold(Sentences s) {
        runDrawsByANumber(s);
        runOfMostActs(s);
        runPutsIn(s);
        runTakesOut(s);
        runParts(s);
        runJoinsOrAdds(s);
        runMovesTheSeedOrCopies(s);
        runDoesWhatCanBe(s);
        runDoesNothingInFact(s);
        run(s);
        imageKeepsAllButThePad(s);
        imagesAre0And1(s);
        restoreIsAsItWas(s);
        restoreOfWhatWasNotKept(s);
        told(s);
        toldOutside(s);
    }

    private static int digestOf(int key) {
        return 1 + 7919 * (key + 1);
    }

    /** A run of one draw: what it tells of set 0, of all keys and of the seed. */
    private static void drawn(Sentences s, KeyedTree tree, int number, int digest, int keys, int seed) {
        s.all(tree, "run(" + number + ", 1, 0)", digest, "run(" + number + ", 1, 1)", keys, "run(" + number + ", 1, 2)", seed);
    }

    private static void runDrawsByANumber(Sentences s) {
        s.of("Terms", "A RUN by a number (0 to 9999) of m ACTS (1 to 99), from all as it is: x becomes (75 x and 74) left over by 65537: "
            + "by x left over by 8, y being x by 8 (cut):");
        // 0 draws 74: key 9 into A; then 5624: key 3 into C.
        drawn(s, new KeyedTree(), 0, digestOf(9), 1, 0);
        s.all(new KeyedTree(), "run(0, 2, 0)", digestOf(9), "run(0, 2, 1)", 2, "run(0, 2, 2)", 0);
        // 872 draws 65474, not yet left over; 873 draws 65549, and 12 is left over: key 1 out of A.
        drawn(s, new KeyedTree(), 872, 0, 1, 0);
        drawn(s, Talk.with(0, 1), 873, 0, 0, 0);
        // 5242 draws 2, the least of all: key 0 into A; 9611 draws 65529, the greatest: key 41 into D.
        drawn(s, new KeyedTree(), 5242, digestOf(0), 1, 0);
        drawn(s, Talk.with(3, 41), 9611, 0, 1, 0);
        drawn(s, new KeyedTree(), 9611, 0, 1, 0);
        // 9999 draws 29092: key 36 out of A.
        drawn(s, Talk.with(0, 36), 9999, 0, 0, 0);
        // From all as it is: the seed and the keys that are there.
        KeyedTree tree = Talk.with(0, 2, 5);
        tree.seed(1);
        int digest = tree.told(20);
        s.must("a digest by seed 1", digest == 1 + (57 * 47515 + 7919 * 3) % 999983);
        drawn(s, tree, 872, digest, 3, 1);
    }

    private static void runOfMostActs(Sentences s) {
        s.of("Terms", "A RUN by a number (0 to 9999) of m ACTS (1 to 99)");
        int[] numbers = {0, 1, 4999, 9998, 9999};
        int[] seeds = {0, 9990, 9999};
        for (int number : numbers) {
            for (int seed : seeds) {
                KeyedTree tree = Talk.fill(Talk.with(1, 0, 49), 0, 2, 38);
                Model model = new Model();
                for (int key = 2; key <= 38; key++) {
                    model.put(0, key, true);
                }
                model.put(1, 0, true);
                model.put(1, 49, true);
                tree.seed(seed);
                model.seed(seed);
                for (int what = 0; what <= 2; what++) {
                    s.due(tree, "run(" + number + ", 1, " + what + ")", model.run(number, 1, what));
                    s.due(tree, "run(" + number + ", 98, " + what + ")", model.run(number, 98, what));
                    s.due(tree, "run(" + number + ", 99, " + what + ")", model.run(number, 99, what));
                }
            }
        }
    }

    private static void runPutsIn(Sentences s) {
        s.of("Terms", "0, 1, 2 KEY y left over by 50 is put into SET y by 50 (cut) left over by 4,");
        // 1600: key 0 into A; 29017: key 27 into A; 74: key 9 into A; 4792: key 49 into D; 449: key 6 into B; 824: key 3 into C.
        drawn(s, new KeyedTree(), 1768, digestOf(0), 1, 0);
        drawn(s, new KeyedTree(), 9998, digestOf(27), 1, 0);
        drawn(s, new KeyedTree(), 0, digestOf(9), 1, 0);
        drawn(s, Talk.with(0, 49), 9675, digestOf(49), 2, 0);
        drawn(s, Talk.with(3, 49), 9675, 0, 1, 0);
        drawn(s, Talk.with(1, 6), 5, 0, 1, 0);
        drawn(s, Talk.with(2, 3), 10, 0, 1, 0);
        drawn(s, Talk.with(1, 3), 10, 0, 2, 0);
    }

    private static void runTakesOut(Sentences s) {
        s.of("Terms", "3, 4 it is taken out,");
        // 1603: key 0 out of A; 29092: key 36 out of A; 524: key 15 out of B; 1499: key 37 out of D.
        drawn(s, Talk.with(0, 0), 7011, 0, 0, 0);
        drawn(s, Talk.with(0, 36, 0), 9999, digestOf(0), 1, 0);
        drawn(s, Talk.with(1, 15), 6, 0, 0, 0);
        drawn(s, Talk.with(3, 37), 19, 0, 0, 0);
        drawn(s, Talk.with(0, 15), 6, digestOf(15), 1, 0);
    }

    private static void runParts(Sentences s) {
        s.of("Terms", "5 SET y left over by 4 is PARTED at KEY y by 4 (cut) left over by 50, to SET y by 200 (cut) left over by 4,");
        // 149: C at 4 to A; 1349: A at 42 to A, which can not be; 1949: D at 10 to B.
        drawn(s, Talk.with(2, 3, 4), 1, digestOf(4), 2, 0);
        drawn(s, Talk.with(2, 3), 1, 0, 1, 0);
        drawn(s, Talk.put(Talk.with(2, 3, 4), 0, 49), 1, digestOf(49), 3, 0);
        drawn(s, Talk.with(0, 43), 17, digestOf(43), 1, 0);
        drawn(s, Talk.with(3, 9, 10), 25, 0, 2, 0);
        // 7965: y is 995, D at 48 to A; 6413: y is 801, B at 0 to A.
        drawn(s, Talk.with(3, 47, 48), 6222, digestOf(48), 2, 0);
        drawn(s, Talk.with(1, 0), 2706, digestOf(0), 1, 0);
    }

    private static void runJoinsOrAdds(Sentences s) {
        s.of("Terms", "6 SET y left over by 4 is JOINED with SET y by 4 (cut) left over by 4, if y by 16 (cut) left over by 2 is 0, "
            + "else has the other's KEYS, too,");
        // 1574: A joined with B; 18974: D joined with A; 2174: D joined with D, which can not be.
        drawn(s, Talk.with(1, 5), 20, digestOf(5), 1, 0);
        drawn(s, Talk.put(Talk.with(0, 6), 1, 5), 20, digestOf(6), 2, 0);
        drawn(s, Talk.with(0, 5), 252, 0, 1, 0);
        drawn(s, Talk.with(3, 5), 28, 0, 1, 0);
        // 11174: A has B's too; 9374: D has A's too; 2774: C has C's too, which can not be.
        drawn(s, Talk.with(1, 5), 148, digestOf(5), 2, 0);
        drawn(s, Talk.with(0, 5), 124, digestOf(5), 2, 0);
        drawn(s, Talk.with(2, 5), 36, 0, 1, 0);
        KeyedTree over = Talk.put(Talk.fill(new KeyedTree(), 0, 0, 39), 1, 40);
        drawn(s, over, 148, over.told(20), 41, 0);
        drawn(s, over, 20, over.told(20), 41, 0);
        KeyedTree fits = Talk.put(Talk.fill(new KeyedTree(), 0, 0, 38), 1, 40);
        s.all(fits, "run(148, 1, 1)", 41, "run(20, 1, 1)", 40);
    }

    private static void runMovesTheSeedOrCopies(Sentences s) {
        s.of("Terms", "7 the SEED is 1 more, if y left over by 4 is 0, else SET y by 4 (cut) left over by 4 has the KEYS of "
            + "SET y by 16 (cut) left over by 4;");
        // 1799: the seed; 14999: A has B's; 7799: D has A's; 1199: B has B's, which can not be.
        drawn(s, new KeyedTree(), 23, 0, 0, 1);
        KeyedTree late = Talk.with(0, 2, 5);
        s.all(late, "seed(9998)", 0, "run(23, 1, 2)", 9999, "seed(9999)", 9998, "run(23, 1, 2)", 9999, "run(23, 1, 0)", late.told(20));
        KeyedTree turned = Talk.with(0, 2, 5);
        s.all(turned, "run(23, 1, 0)", 1 + (57 * 47515 + 7919 * 3) % 999983);
        drawn(s, Talk.put(Talk.with(0, 1, 2), 1, 5), 199, digestOf(5), 2, 0);
        drawn(s, Talk.with(0, 1, 2), 199, 0, 0, 0);
        drawn(s, Talk.put(Talk.with(0, 5), 3, 1, 2, 3), 103, digestOf(5), 2, 0);
        drawn(s, Talk.with(1, 5), 15, 0, 1, 0);
    }

    private static void runDoesWhatCanBe(Sentences s) {
        s.of("Terms", "each if that can be: the DIGEST of SET 0; KEYS of all SETS, added; the SEED.");
        // What can not be is passed over, and the next draw comes: 0 puts 9 into A, which is in, then 3 into C.
        s.all(Talk.with(0, 9), "run(0, 1, 1)", 1, "run(0, 2, 1)", 2, "run(0, 1, 0)", digestOf(9));
        KeyedTree full = Talk.fill(new KeyedTree(), 0, 10, 49);
        s.all(full, "run(0, 1, 1)", 40, "run(0, 2, 1)", 41, "run(0, 1, 0)", full.told(20));
        drawn(s, Talk.with(0, 35), 9999, digestOf(35), 1, 0);
        // Signs that have a fault, and acts that can not be, do not matter to it.
        s.all(Makes.faulty(), "run(23, 1, 2)", 78);
        s.all(Makes.stuck(), "run(23, 1, 2)", 78);
        s.all(Makes.full(), "run(7, 1, 1)", 160, "run(9999, 99, 2)", 9999);
    }

    private static void runDoesNothingInFact(Sentences s) {
        s.of("Terms", "Nothing is DONE in fact.");
        for (Sentences.Make make : Makes.all()) {
            for (int what = 0; what <= 2; what++) {
                s.leaves(make, "run(0, 1, " + what + ")");
                s.leaves(make, "run(23, 1, " + what + ")");
                s.leaves(make, "run(9999, 99, " + what + ")");
            }
        }
    }

    private static void run(Sentences s) {
        s.of("Promise 22: run", "A RUN: DIGEST (what = 0), KEYS (1), the SEED (2).");
        s.all(Talk.with(1, 7), "run(0, 1, 0)", digestOf(9), "run(0, 1, 1)", 2, "run(0, 1, 2)", 0);
        s.of("Promise 22: run", "OUTSIDE.");
        KeyedTree tree = new KeyedTree();
        s.each(tree, "run(#, 1, 0)", OUTSIDE, -1, 10000, MIN, MAX);
        s.each(tree, "run(0, #, 0)", OUTSIDE, 0, 100, -1, MIN, MAX);
        s.each(tree, "run(0, 1, #)", OUTSIDE, -1, 3, MIN, MAX);
        s.each(tree, "run(#, #, #)", OUTSIDE, -1, 10000, MIN, MAX);
    }

    private static void imageKeepsAllButThePad(Sentences s) {
        s.of("Promise 23: image", "All but the PAD is kept in an IMAGE (0, 1): 1.");
        KeyedTree tree = Makes.some();
        int[] digests = {tree.told(20), tree.told(21), tree.told(22), tree.told(23)};
        int seeds = tree.seeds(-1);
        s.due(tree, "image(1)", 1);
        Talk.pad(tree, "A~DC+07D=CB-05!");
        s.all(tree, "done()", 5, "above(1, 0)", 3, "above(7, 8)", 4, "seed(9999)", 78);
        Talk.say(tree, "xyz");
        s.all(tree, "restore(1)", 1, "told(0)", 3, "fault()", 0, "told(1)", 77, "told(2)", 2, "seeds(-1)", seeds);
        for (int set = 0; set < 4; set++) {
            s.due(tree, "told(2" + set + ")", digests[set]);
        }
        // The pad is left by both, empty, full or with a fault.
        for (Sentences.Make make : Makes.all()) {
            KeyedTree kept = make.tree();
            int signs = kept.told(0);
            int fault = kept.fault();
            s.all(kept, "image(0)", 1, "told(0)", signs, "fault()", fault, "restore(0)", 1, "told(0)", signs, "fault()", fault);
        }
        s.all(Makes.full(), "image(0)", 1, "wipe()", 60, "restore(0)", 1, "told(0)", 0);
    }

    private static void imagesAre0And1(Sentences s) {
        s.of("Promise 23: image", "OUTSIDE.");
        for (Sentences.Make make : Makes.all()) {
            s.leaves(make, "image(#)", OUTSIDE, -1, 2, MIN, MAX);
        }
        s.of("Promise 23: image", "in an IMAGE (0, 1)");
        KeyedTree tree = new KeyedTree();
        s.all(tree, "image(0)", 1, "put(0, 5, true)", 1, "image(1)", 1, "put(0, 6, true)", 2, "restore(0)", 1, "told(10)", 0,
            "restore(1)", 1, "told(10)", 1, "restore(1)", 1, "told(10)", 1, "restore(0)", 1, "told(10)", 0);
        // What is kept anew takes the place of what was kept, there alone.
        s.all(tree, "seed(7)", 0, "image(0)", 1, "seed(8)", 7, "restore(1)", 1, "told(1)", 0, "restore(0)", 1, "told(1)", 7);
    }

    private static void restoreIsAsItWas(Sentences s) {
        s.of("Promise 24: restore", "It is as it was when it was kept: 1.");
        for (Sentences.Make make : Makes.all()) {
            KeyedTree there = make.tree();
            s.due(there, "image(0)", 1);
            KeyedTree back = make.tree();
            s.all(back, "image(0)", 1, "seed(4)", back.told(1), "forget()", back.told(2));
            back.put(0, 5, false);
            back.put(0, 44, true);
            back.put(3, 0, true);
            back.put(3, 49, false);
            back.above(3, 4);
            s.due(back, "restore(0)", 1);
            String change = Trace.firstChange(there, back);
            s.must("restore left " + change, change.isEmpty());
        }
    }

    private static void restoreOfWhatWasNotKept(Sentences s) {
        s.of("Promise 24: restore", "OUTSIDE;");
        for (Sentences.Make make : Makes.all()) {
            s.leaves(make, "restore(#)", OUTSIDE, -1, 2, MIN, MAX);
        }
        s.of("Promise 24: restore", "STATE: it was not.");
        s.leaves(Makes::empty, "restore(#)", STATE, 0, 1);
        s.leaves(Makes::some, "restore(1)", STATE);
        s.all(new KeyedTree(), "restore(1)", STATE, "image(0)", 1, "restore(1)", STATE, "restore(0)", 1, "image(1)", 1, "restore(1)", 1);
        s.all(new KeyedTree(), "restore(0)", STATE, "image(1)", 1, "restore(0)", STATE, "restore(1)", 1);
        s.all(new KeyedTree(), "image(2)", OUTSIDE, "image(-1)", OUTSIDE, "restore(0)", STATE, "restore(1)", STATE);
    }

    private static void told(Sentences s) {
        s.of("Promise 25: told", "0 signs, 1 the SEED, 2 SIGHTS;");
        s.all(new KeyedTree(), "told(0)", 0, "told(1)", 0, "told(2)", 0);
        s.all(Makes.some(), "told(0)", 12, "told(1)", 77, "told(2)", 2);
        KeyedTree full = Makes.full();
        s.all(full, "told(0)", 60, "told(1)", 9999, "told(2)", 8);
        s.of("Promise 25: told", "10 and a SET: how many KEYS;");
        s.each(full, "told(#)", 40, 10, 11, 12, 13);
        s.all(Makes.some(), "told(10)", 3, "told(11)", 2, "told(12)", 0, "told(13)", 3);
        s.of("Promise 25: told", "20 and a SET: the DIGEST;");
        KeyedTree tree = Talk.put(Talk.put(Talk.with(0, 0), 1, 49), 3, 2, 5);
        s.all(tree, "told(20)", 7920, "told(21)", 395951, "told(22)", 0, "told(23)", 784013, "seed(1)", 0, "told(23)",
            1 + (57 * 47515 + 7919 * 3) % 999983);
        s.of("Promise 25: told", "100, 200, 300, or 400 and a KEY: whether it is in SET 0, 1, 2, 3 (1, 0).");
        for (int set = 0; set < 4; set++) {
            KeyedTree ends = Talk.with(set, 0, 49);
            for (int key = 0; key < 50; key++) {
                s.due(ends, "told(" + (100 * (set + 1) + key) + ")", key == 0 || key == 49 ? 1 : 0);
                s.due(ends, "told(" + (100 * ((set + 1) % 4 + 1) + key) + ")", 0);
            }
        }
    }

    /** Signs that were said do not count as done, and no number but those of the document tells a thing. */
    private static void toldOutside(Sentences s) {
        s.of("Promise 25: told", "OUTSIDE.");
        KeyedTree tree = new KeyedTree();
        for (int what = -600; what < 600; what++) {
            tree = what % 300 == 0 ? Makes.full() : tree;
            boolean one = what >= 0 && what <= 2 || what >= 10 && what <= 13 || what >= 20 && what <= 23;
            boolean key = what >= 100 && what < 500 && what % 100 < 50;
            if (!one && !key) {
                s.due(tree, "told(" + what + ")", OUTSIDE);
            } else {
                s.must("told(" + what + ") is told", tree.told(what) >= 0);
            }
        }
        s.each(tree, "told(#)", OUTSIDE, MIN, MIN + 1, MIN + 10, MIN + 100, MAX, MAX - 1, 65536, 65536 + 100, 1 << 30);
        s.due(Talk.pad(new KeyedTree(), "A+00"), "told(100)", 0);
        s.due(new KeyedTree(), "told(" + NONE + ")", OUTSIDE);
    }
}
