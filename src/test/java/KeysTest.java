/** Promises 1 to 6: a new object, seed, put, say, wipe, fault. */
public final class KeysTest {
    private static final Tally TALLY = new Tally("KeysTest");

    public static void main(String[] args) {
        newObject();
        seed();
        put();
        putFull();
        say();
        wipe();
        faultOfWholeActs();
        faultOfOtherSigns();
        TALLY.end();
    }

    private static void newObject() {
        KeyedTree tree = new KeyedTree();
        for (int what = 0; what <= 2; what++) {
            TALLY.due("new: told(" + what + ")", tree.told(what), 0);
        }
        for (int set = 0; set < 4; set++) {
            TALLY.due("new: keys of " + set, tree.told(10 + set), 0);
            TALLY.due("new: digest of " + set, tree.told(20 + set), 0);
            TALLY.due("new: at of " + set, tree.at(set, 0), KeyedTree.NONE);
            for (int key = 0; key < 50; key++) {
                TALLY.due("new: key " + key, tree.told(100 * (set + 1) + key), 0);
            }
        }
        TALLY.due("new: fault", tree.fault(), KeyedTree.NONE);
        TALLY.due("new: seeds", tree.seeds(-1), 10000);
        TALLY.due("new: restore 0", tree.restore(0), KeyedTree.STATE);
        TALLY.due("new: restore 1", tree.restore(1), KeyedTree.STATE);
    }

    private static void seed() {
        KeyedTree tree = new KeyedTree();
        TALLY.due("seed(9999)", tree.seed(9999), 0);
        TALLY.due("seed(0)", tree.seed(0), 9999);
        TALLY.due("seed(17)", tree.seed(17), 0);
        int[] outside = {-1, 10000, 10007, Integer.MIN_VALUE, Integer.MAX_VALUE};
        for (int v : outside) {
            TALLY.due("seed(" + v + ")", tree.seed(v), KeyedTree.OUTSIDE);
            TALLY.due("the seed is left", tree.told(1), 17);
        }
        TALLY.due("seed(17) again", tree.seed(17), 17);
        // By seed 0 key 5 (8731) ranks above key 2 (8602), by seed 1 key 2 (9127) above key 5 (35).
        KeyedTree other = Talk.with(3, 2, 5);
        TALLY.due("root by seed 0", other.behind(3, 2), 5);
        other.seed(1);
        TALLY.due("root by seed 1", other.behind(3, 2), 2);
    }

    private static void put() {
        KeyedTree tree = new KeyedTree();
        TALLY.due("put(2, 49, true)", tree.put(2, 49, true), 1);
        TALLY.due("put(2, 0, true)", tree.put(2, 0, true), 2);
        TALLY.due("put again", tree.put(2, 0, true), 2);
        TALLY.due("put away what is not in", tree.put(2, 1, false), 2);
        TALLY.due("put into another", tree.put(3, 0, true), 1);
        TALLY.due("put away", tree.put(2, 49, false), 1);
        TALLY.due("it is away", tree.told(349), 0);
        TALLY.due("the other is in", tree.told(300), 1);
        int[] noSets = {-1, 4, 100, Integer.MIN_VALUE, Integer.MAX_VALUE};
        for (int set : noSets) {
            TALLY.due("put(" + set + ", 0)", tree.put(set, 0, true), KeyedTree.UNKNOWN);
        }
        int[] noKeys = {-1, 50, 64, Integer.MIN_VALUE, Integer.MAX_VALUE};
        for (int key : noKeys) {
            TALLY.due("put(0, " + key + ", true)", tree.put(0, key, true), KeyedTree.UNKNOWN);
            TALLY.due("put(0, " + key + ", false)", tree.put(0, key, false), KeyedTree.UNKNOWN);
        }
        TALLY.due("nothing came in", tree.told(10), 0);
    }

    private static void putFull() {
        KeyedTree tree = Talk.fill(new KeyedTree(), 1, 0, 38);
        TALLY.due("the 40th", tree.put(1, 49, true), 40);
        TALLY.due("the 41st", tree.put(1, 40, true), KeyedTree.FULL);
        TALLY.due("it is not in", tree.told(240), 0);
        TALLY.due("one that is in", tree.put(1, 49, true), 40);
        TALLY.due("one that is not in is not in", tree.put(1, 40, false), 40);
        TALLY.due("no such key", tree.put(1, 50, true), KeyedTree.UNKNOWN);
        TALLY.due("another set", tree.put(0, 40, true), 1);
        TALLY.due("out", tree.put(1, 0, false), 39);
        TALLY.due("in", tree.put(1, 40, true), 40);
    }

    private static void say() {
        KeyedTree tree = new KeyedTree();
        int[] outside = {32, 127, 0, -1, 65 + 256, 65 + 65536, Integer.MIN_VALUE, Integer.MAX_VALUE};
        for (int sign : outside) {
            TALLY.due("say(" + sign + ")", tree.say(sign), KeyedTree.OUTSIDE);
        }
        TALLY.due("no sign yet", tree.told(0), 0);
        TALLY.due("say(33)", tree.say(33), 1);
        TALLY.due("say(126)", tree.say(126), 2);
        for (int i = 3; i <= 60; i++) {
            TALLY.due("sign " + i, tree.say(33 + i), i);
        }
        TALLY.due("the 61st", tree.say(65), KeyedTree.FULL);
        TALLY.due("the 61st, and outside", tree.say(127), KeyedTree.OUTSIDE);
        TALLY.due("60 signs", tree.told(0), 60);
    }

    private static void wipe() {
        KeyedTree tree = Talk.put(new KeyedTree(), 0, 7);
        TALLY.due("wipe nothing", tree.wipe(), 0);
        Talk.say(tree, "A+01E");
        TALLY.due("wipe 5", tree.wipe(), 5);
        TALLY.due("wiped", tree.told(0), 0);
        TALLY.due("no fault", tree.fault(), KeyedTree.NONE);
        TALLY.due("nothing was done", tree.told(10), 1);
        Talk.say(tree, "!");
        TALLY.due("one sign alone stands there", tree.alike(2), 1);
    }

    private static void faultIs(String text, int want) {
        KeyedTree tree = Talk.pad(new KeyedTree(), text);
        TALLY.due("fault of " + text, tree.fault(), want);
        TALLY.must("judge of " + text, (tree.judge(0) == KeyedTree.NO) == (want != KeyedTree.NONE));
    }

    private static void faultOfWholeActs() {
        int none = KeyedTree.NONE;
        String[] whole = {"", "!", "!!", "A+00", "D-49", "B/00C", "C/49A", "A&B", "B=D", "C|A", "D~C", "A&A", "A/07A",
            "A+09A+19A+29A+39A+49", "!A+00!B=A!", "A~BC|D!D/10A"};
        for (String text : whole) {
            faultIs(text, none);
        }
        String[] begun = {"A", "D", "A+", "A-", "A+0", "A-4", "A/", "A/0", "A/00", "A/49", "A&", "A=", "A|", "A~", "!A", "!!A+",
            "A+00A", "A+00B/3", "A&BC~"};
        for (String text : begun) {
            faultIs(text, text.length());
        }
    }

    private static void faultOfOtherSigns() {
        String[] first = {"E", "@", "a", "+", "0", "&", "~", "\"", "E+00", "EA+00"};
        for (String text : first) {
            faultIs(text, 0);
        }
        String[] second = {"AA", "A!", "A0", "A*", "A,", "A.", "A:", "A>", "A}", "AE+00", "AA+00", "A!A+00"};
        for (String text : second) {
            faultIs(text, 1);
        }
        String[] third = {"A+5", "A-5", "A/5", "A+/", "A+:", "A+A", "A&E", "A&@", "A=0", "A|!", "A~a", "A+50", "A/99B", "A&00"};
        for (String text : third) {
            faultIs(text, 2);
        }
        String[] fourth = {"A+0:", "A+4/", "A-4A", "A/3:", "A/3B", "A+0+"};
        for (String text : fourth) {
            faultIs(text, 3);
        }
        String[] fifth = {"A/00E", "A/00@", "A/00!", "A/490", "A+00E", "A+000", "A+00+", "!A&B0"};
        for (String text : fifth) {
            faultIs(text, 4);
        }
        faultIs("A+00B-01C/02DE", 13);
        KeyedTree tree = Talk.pad(new KeyedTree(), "AE");
        Talk.say(tree, "A+00");
        TALLY.due("the first fault stays", tree.fault(), 1);
    }
}
