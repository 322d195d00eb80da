/** Promises 22 to 25: run, image, restore, told. */
public final class RunsTest {
    private static final Tally TALLY = new Tally("RunsTest");
    private static final int NONE = KeyedTree.NONE;
    /** Each draw takes up to eight calls of the 512 that an object answers. */
    private static final int DRAWS = 60;

    public static void main(String[] args) {
        runOfOne();
        runByTheText();
        runChangesNothing();
        runRefused();
        image();
        imagesAreTwo();
        restoreLeavesThePad();
        imageRefused();
        told();
        toldOutside();
        TALLY.end();
    }

    private static void runIs(KeyedTree tree, int number, int m, int digest, int keys, int seed) {
        TALLY.due("run(" + number + ", " + m + ", 0)", tree.run(number, m, 0), digest);
        TALLY.due("run(" + number + ", " + m + ", 1)", tree.run(number, m, 1), keys);
        TALLY.due("run(" + number + ", " + m + ", 2)", tree.run(number, m, 2), seed);
    }

    private static void runOfOne() {
        // 0: x is 74, 2 by 8, y 9: key 9 into set 0.
        runIs(new KeyedTree(), 0, 1, 1 + 7919 * 10, 1, 0);
        // 1: x is 149, 5 by 8, y 18: set 2 parted at 4 to set 0.
        runIs(Talk.with(2, 3, 4), 1, 1, 1 + 7919 * 5, 2, 0);
        runIs(Talk.put(Talk.with(2, 3, 4), 0, 9), 1, 1, 1 + 7919 * 10, 3, 0);
        // 6: x is 524, 4 by 8, y 65: key 15 out of set 1.
        runIs(Talk.with(1, 15, 16), 6, 1, 0, 1, 0);
        runIs(Talk.with(1, 16), 6, 1, 0, 1, 0);
        // 3: x is 299, 3 by 8, y 37: key 37 out of set 0.
        runIs(Talk.with(0, 37), 3, 1, 0, 0, 0);
    }

    /** Each draw as a text of one act, done if it can be: the end must be the same. */
    private static void runByTheText() {
        for (int number = 0; number < 10000; number += 99) {
            KeyedTree tree = Talk.put(Talk.put(Talk.with(0, 1, 2, 3), 1, 10, 49), 2, 30);
            tree.seed(number < 2000 ? 9998 : number / 3);
            int digest = tree.run(number, DRAWS, 0);
            int keys = tree.run(number, DRAWS, 1);
            int seed = tree.run(number, DRAWS, 2);
            int x = number;
            for (int i = 0; i < DRAWS; i++) {
                x = (75 * x + 74) % 65537;
                Talk.pad(tree, text(x));
                TALLY.due("no fault in " + text(x), tree.fault(), NONE);
                tree.done();
            }
            TALLY.due("digest of run " + number, tree.told(20), digest);
            TALLY.due("keys of run " + number, tree.told(10) + tree.told(11) + tree.told(12) + tree.told(13), keys);
            TALLY.due("seed of run " + number, tree.told(1), seed);
        }
    }

    private static String text(int x) {
        int y = x / 8;
        switch (x % 8) {
            case 0: case 1: case 2: return letter(y / 50) + "+" + figures(y);
            case 3: case 4: return letter(y / 50) + "-" + figures(y);
            case 5: return letter(y) + "/" + figures(y / 4) + letter(y / 200);
            case 6: return letter(y) + (y / 16 % 2 == 0 ? "&" : "|") + letter(y / 4);
            default: return y % 4 == 0 ? "!" : letter(y / 4) + "=" + letter(y / 16);
        }
    }

    private static String letter(int number) {
        return "ABCD".substring(number % 4, number % 4 + 1);
    }

    private static String figures(int number) {
        return "" + number % 50 / 10 + number % 10;
    }

    private static void runChangesNothing() {
        KeyedTree tree = Talk.pad(Talk.with(0, 1, 2), "B+");
        tree.above(1, 2);
        int digest = tree.told(20);
        for (int what = 0; what <= 2; what++) {
            tree.run(4321, 99, what);
        }
        TALLY.due("digest", tree.told(20), digest);
        TALLY.due("keys of A", tree.told(10), 2);
        TALLY.due("keys of others", tree.told(11) + tree.told(12) + tree.told(13), 0);
        TALLY.due("seed", tree.told(1), 0);
        TALLY.due("signs", tree.told(0), 2);
        TALLY.due("sights", tree.told(2), 1);
    }

    private static void runRefused() {
        KeyedTree tree = new KeyedTree();
        int[][] outside = {{-1, 1, 0}, {10000, 1, 0}, {0, 0, 0}, {0, 100, 0}, {0, 1, -1}, {0, 1, 3}, {Integer.MIN_VALUE, 1, 0},
            {0, Integer.MAX_VALUE, 0}, {0, Integer.MIN_VALUE, 0}, {Integer.MAX_VALUE, 99, 2}, {0, 1, Integer.MAX_VALUE}};
        for (int[] o : outside) {
            TALLY.due("run outside", tree.run(o[0], o[1], o[2]), KeyedTree.OUTSIDE);
        }
        TALLY.must("run(9999, 99, 2)", tree.run(9999, 99, 2) >= 0);
        TALLY.must("run(0, 1, 0)", tree.run(0, 1, 0) >= 0);
    }

    private static void image() {
        KeyedTree tree = Talk.put(Talk.put(Talk.with(0, 1, 2), 1, 3), 3, 49);
        tree.seed(77);
        tree.above(1, 2);
        int seeds = tree.seeds(-1);
        int digest = tree.told(20);
        TALLY.due("image(0)", tree.image(0), 1);
        for (int again = 0; again < 2; again++) {
            Talk.put(tree, 0, 30, 31, 32);
            tree.put(1, 3, false);
            Talk.put(tree, 2, 7);
            tree.seed(5);
            tree.above(3, 4);
            if (again == 1) {
                tree.forget();
            }
            TALLY.due("restore(0)", tree.restore(0), 1);
            TALLY.due("seed", tree.told(1), 77);
            TALLY.due("sights", tree.told(2), 1);
            TALLY.due("seeds", tree.seeds(-1), seeds);
            TALLY.due("digest", tree.told(20), digest);
            int[] keys = {2, 1, 0, 1};
            for (int set = 0; set < 4; set++) {
                TALLY.due("keys of " + set, tree.told(10 + set), keys[set]);
            }
        }
    }

    private static void imagesAreTwo() {
        KeyedTree tree = Talk.with(0, 1);
        tree.image(1);
        TALLY.due("image 0 was not kept", tree.restore(0), KeyedTree.STATE);
        Talk.put(tree, 0, 2);
        tree.image(0);
        Talk.put(tree, 0, 3);
        TALLY.due("restore(1)", tree.restore(1), 1);
        TALLY.due("one key", tree.told(10), 1);
        TALLY.due("restore(0), kept later", tree.restore(0), 1);
        TALLY.due("two keys", tree.told(10), 2);
        tree.image(1);
        tree.put(0, 1, false);
        tree.restore(1);
        TALLY.due("kept anew", tree.told(10), 2);
    }

    private static void restoreLeavesThePad() {
        KeyedTree tree = Talk.pad(new KeyedTree(), "A+01");
        tree.image(0);
        TALLY.due("image leaves the pad", tree.told(0), 4);
        Talk.pad(tree, "!!");
        tree.restore(0);
        TALLY.due("restore leaves the pad", tree.told(0), 2);
        TALLY.due("as it is", tree.alike(2), 2);
    }

    private static void imageRefused() {
        KeyedTree tree = Talk.with(0, 1);
        int[] no = {-1, 2, Integer.MIN_VALUE, Integer.MAX_VALUE};
        for (int k : no) {
            TALLY.due("image(" + k + ")", tree.image(k), KeyedTree.OUTSIDE);
            TALLY.due("restore(" + k + ")", tree.restore(k), KeyedTree.OUTSIDE);
        }
        TALLY.due("restore(0)", tree.restore(0), KeyedTree.STATE);
        TALLY.due("restore(1)", tree.restore(1), KeyedTree.STATE);
        TALLY.due("nothing changed", tree.told(10), 1);
    }

    private static void told() {
        KeyedTree tree = Talk.put(Talk.put(Talk.put(Talk.put(new KeyedTree(), 0, 0), 1, 1, 49), 2, 2, 3, 4), 3, 5, 6, 7, 8);
        tree.seed(123);
        Talk.say(tree, "xyz");
        tree.above(1, 2);
        tree.above(2, 3);
        int[] want = {3, 123, 2};
        for (int what = 0; what <= 2; what++) {
            TALLY.due("told(" + what + ")", tree.told(what), want[what]);
        }
        for (int set = 0; set < 4; set++) {
            TALLY.due("told(1" + set + ")", tree.told(10 + set), set + 1);
            TALLY.due("told(2" + set + ")", tree.told(20 + set), tree.node(set, root(tree, set), 4));
        }
        int[] in = {100, 201, 249, 302, 303, 304, 405, 406, 407, 408};
        int sum = 0;
        for (int what : in) {
            TALLY.due("told(" + what + ")", tree.told(what), 1);
        }
        for (int set = 1; set <= 4; set++) {
            for (int key = 0; key < 50; key++) {
                sum += tree.told(100 * set + key);
            }
        }
        TALLY.due("no others are in", sum, in.length);
    }

    private static int root(KeyedTree tree, int set) {
        for (int key = 0; key < 50; key++) {
            if (tree.node(set, key, 5) == 0) {
                return key;
            }
        }
        return NONE;
    }

    private static void toldOutside() {
        KeyedTree tree = Talk.fill(Talk.fill(new KeyedTree(), 0, 0, 39), 3, 10, 49);
        int[] no = {-1, 3, 9, 14, 19, 24, 30, 40, 50, 99, 150, 199, 250, 299, 350, 399, 450, 499, 500, 549, 1000,
            -10, -20, -100, -200, -400, Integer.MIN_VALUE, Integer.MIN_VALUE + 10, Integer.MAX_VALUE, 1 << 16, (1 << 16) + 100};
        for (int what : no) {
            TALLY.due("told(" + what + ")", tree.told(what), KeyedTree.OUTSIDE);
        }
    }
}
