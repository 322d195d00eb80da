/** Promises 7 to 10: judge, behind, alike, done. */
public final class ActsTest {
    private static final Tally TALLY = new Tally("ActsTest");
    private static final int NONE = KeyedTree.NONE;

    public static void main(String[] args) {
        judgeRefused();
        reasonsOfOne();
        reasonsOfTwo();
        reasonsOfFullSets();
        firstThatCanNotBe();
        workOfKeys();
        workOfSets();
        workOfSeeds();
        behind();
        behindEachAct();
        behindRefused();
        alike();
        alikeOfPairs();
        alikeRefused();
        done();
        doneRefused();
        TALLY.end();
    }

    private static void judged(KeyedTree tree, String text, int act, int why) {
        Talk.pad(tree, text);
        TALLY.due("judge(0) of " + text, tree.judge(0), act);
        TALLY.due("judge(1) of " + text, tree.judge(1), why);
        if (act != NONE) {
            TALLY.due("judge(2) of " + text, tree.judge(2), KeyedTree.STATE);
        }
    }

    private static void canBe(KeyedTree tree, String text) {
        judged(tree, text, NONE, NONE);
        TALLY.must("judge(2) of " + text, tree.judge(2) >= 0);
    }

    private static void judgeRefused() {
        KeyedTree tree = new KeyedTree();
        int[] outside = {-1, 3, Integer.MIN_VALUE, Integer.MAX_VALUE};
        for (int what : outside) {
            TALLY.due("judge(" + what + ")", tree.judge(what), KeyedTree.OUTSIDE);
        }
        Talk.pad(tree, "A-00E");
        for (int what = 0; what <= 2; what++) {
            TALLY.due("judge with a fault", tree.judge(what), KeyedTree.NO);
        }
        TALLY.due("outside ahead of no", tree.judge(3), KeyedTree.OUTSIDE);
        judged(tree, "", NONE, NONE);
        TALLY.due("no act, no work", tree.judge(2), 0);
    }

    private static void reasonsOfOne() {
        KeyedTree tree = Talk.with(0, 5);
        judged(tree, "A+05", 0, 2);
        judged(tree, "A-04", 0, 2);
        judged(tree, "B-05", 0, 2);
        canBe(tree, "A+04");
        canBe(tree, "A-05");
        canBe(tree, "B+05");
        canBe(tree, "!");
        tree.seed(9999);
        judged(tree, "!", 0, 6);
        tree.seed(9998);
        judged(tree, "!!", 1, 6);
        canBe(tree, "!");
    }

    private static void reasonsOfTwo() {
        KeyedTree tree = Talk.put(Talk.with(0, 5, 9), 1, 5);
        String[] same = {"A/00A", "A&A", "A=A", "A|A", "A~A", "D=D", "D&D", "D/49D"};
        for (String text : same) {
            judged(tree, text, 0, 1);
        }
        judged(tree, "A/00B", 0, 4);
        judged(tree, "C/00B", 0, 4);
        canBe(tree, "A/00C");
        canBe(tree, "D/00C");
        judged(tree, "A&B", 0, 5);
        judged(tree, "B&A", 0, 5);
        canBe(tree, "A&C");
        canBe(tree, "C&A");
        canBe(tree, "C&D");
        tree.put(1, 5, false);
        Talk.put(tree, 1, 6, 49);
        judged(tree, "A&B", 0, 5);
        tree.put(1, 6, false);
        canBe(tree, "A&B");
        Talk.put(tree, 1, 9);
        judged(tree, "A&B", 0, 5);
        tree.put(1, 9, false);
        tree.put(1, 10, true);
        canBe(tree, "A&B");
        canBe(tree, "A=B");
        canBe(tree, "A|B");
        canBe(tree, "A~B");
        canBe(tree, "A~C");
        canBe(tree, "A=C");
    }

    private static void reasonsOfFullSets() {
        KeyedTree tree = Talk.fill(Talk.fill(new KeyedTree(), 0, 0, 39), 1, 0, 39);
        judged(tree, "A+39", 0, 2);
        judged(tree, "A+40", 0, 3);
        canBe(tree, "A-39A+40");
        canBe(tree, "A|B");
        judged(tree, "A&B", 0, 5);
        judged(tree, "A&A", 0, 1);
        tree.put(1, 39, false);
        tree.put(1, 40, true);
        judged(tree, "A|B", 0, 3);
        judged(tree, "B|A", 0, 3);
        judged(tree, "A&B", 0, 3);
        Talk.put(tree, 2, 40);
        judged(tree, "A&C", 0, 3);
        judged(tree, "C&A", 0, 3);
        canBe(tree, "A-00A&C");
        canBe(tree, "C=A");
        canBe(tree, "C~A");
        canBe(tree, "A/00D");
        judged(tree, "A/00B", 0, 4);
    }

    private static void firstThatCanNotBe() {
        KeyedTree tree = new KeyedTree();
        judged(tree, "A+05A+05", 1, 2);
        judged(tree, "A+05B=AA-05A-05", 3, 2);
        judged(tree, "A-05A=A", 0, 2);
        judged(tree, "!!!A&A!", 3, 1);
        judged(tree, "A+05A/00BA&BA+04A/00BC=CA&A", 5, 1);
        canBe(tree, "A+05A-05A+05A-05");
        canBe(tree, "A+05A/00BA+05");
        // What could not be is forgotten with the signs that told it.
        judged(tree, "A=A", 0, 1);
        canBe(tree, "");
        TALLY.due("done with nothing", tree.done(), 0);
    }

    private static void work(KeyedTree tree, String text, int want) {
        Talk.pad(tree, text);
        TALLY.due("work of " + text, tree.judge(2), want);
    }

    /** By seed 0 the ranks are 5, 2, 1, 4, 3, 0. */
    private static void workOfKeys() {
        KeyedTree tree = new KeyedTree();
        work(tree, "A+05", 1);
        work(tree, "A+00", 1);
        work(tree, "A+49", 1);
        work(tree, "A+00A+05", 1 + 1);
        work(tree, "A+05A+00", 1 + 2);
        work(tree, "A+05A+02", 1 + 2);
        work(tree, "A+02A+05", 1 + 1);
        work(tree, "A+05A+02A-02", 1 + 2 + 1);
        work(tree, "A+05A+02A-05", 1 + 2 + 0);
        work(tree, "A+05B+05", 1 + 1);
        // 4 comes below 2, that below 5; 1 then comes below 2 on its other side.
        work(tree, "A+05A+02A+04A+01", 1 + 2 + 3 + 3);
        // 3 parts nothing; 2 comes above 1 and 3 and parts them.
        work(tree, "A+01A+03A+02", 1 + 2 + 2);
        // 2 goes: 1 is left with 4 at its right, which 5 sees too.
        work(Talk.with(0, 1, 2, 4, 5), "A-02", 2);
    }

    private static void workOfSets() {
        KeyedTree tree = Talk.with(0, 2, 5);
        work(tree, "A/03B", 1);
        work(tree, "A/02B", 2);
        work(tree, "A/00B", 2);
        work(tree, "A/06B", 0);
        work(tree, "A/05BA&B", 1 + 1);
        work(tree, "B=A", 2);
        work(tree, "B=AB=A", 2);
        work(tree, "A=B", 0);
        work(tree, "B|A", 2);
        work(tree, "A|B", 0);
        work(tree, "A~B", 0);
        work(tree, "B+02A~B", 1 + 1);
        work(tree, "B+05A~B", 1 + 0);
        work(tree, "B&A", 2);
        work(tree, "A&B", 0);
        // The joined tree of 1, 2 and 4, 5: 5 above 2 above 1 and 4.
        work(Talk.put(Talk.with(0, 1, 2), 1, 4, 5), "A&B", 3);
    }

    /** By seed 1 key 2 (9127) ranks above key 5 (35), by seed 0 it ranks below. */
    private static void workOfSeeds() {
        KeyedTree tree = Talk.with(0, 2, 5);
        work(tree, "!", 2);
        work(tree, "B=A!", 2 + 4);
        work(Talk.with(3, 2), "!!!", 0);
        work(new KeyedTree(), "!!!!!", 0);
    }

    private static void behind(KeyedTree tree, int set, int keys, int digest, int root, int way) {
        TALLY.due("behind: keys", tree.behind(set, 0), keys);
        TALLY.due("behind: digest", tree.behind(set, 1), digest);
        TALLY.due("behind: root", tree.behind(set, 2), root);
        TALLY.due("behind: way", tree.behind(set, 3), way);
    }

    /** The digests are 1 + 7919 (k + 1) of one key; of more they are told from the bottom up. */
    private static void behind() {
        KeyedTree tree = new KeyedTree();
        for (int set = 0; set < 4; set++) {
            behind(tree, set, 0, 0, NONE, 0);
        }
        Talk.pad(tree, "A+02B+49D+00");
        behind(tree, 0, 1, 1 + 7919 * 3, 2, 1);
        behind(tree, 1, 1, 1 + 7919 * 50, 49, 1);
        behind(tree, 2, 0, 0, NONE, 0);
        behind(tree, 3, 1, 7920, 0, 1);
        TALLY.due("nothing is so yet", tree.told(10), 0);
        Talk.pad(tree, "A+02A+05");
        behind(tree, 0, 2, 1 + (31 * 23758 + 7919 * 6) % 999983, 5, 2);
        Talk.pad(tree, "A+02A+05!");
        behind(tree, 0, 2, 1 + (57 * 47515 + 7919 * 3) % 999983, 2, 2);
        // 5 at the top, 2 below it, 1 and 4 below that, 0 and 3 below those.
        Talk.pad(tree, "A+00A+01A+02A+03A+04A+05");
        behind(tree, 0, 6, 122142, 5, 4);
    }

    private static void behindEachAct() {
        KeyedTree tree = Talk.put(Talk.with(0, 10, 20, 30), 1, 20, 40);
        String[] text = {"A+49", "A-20", "A/20C", "B/41CA-20A-30A&B", "A=B", "A|B", "A~B"};
        int[] keysOfA = {4, 2, 1, 3, 2, 4, 2};
        int[] keysOfB = {2, 2, 2, 0, 2, 2, 2};
        int[] keysOfC = {0, 0, 2, 0, 0, 0, 0};
        for (int i = 0; i < text.length; i++) {
            Talk.pad(tree, text[i]);
            TALLY.due("A behind " + text[i], tree.behind(0, 0), keysOfA[i]);
            TALLY.due("B behind " + text[i], tree.behind(1, 0), keysOfB[i]);
            TALLY.due("C behind " + text[i], tree.behind(2, 0), keysOfC[i]);
        }
        TALLY.due("A is as it was", tree.told(10), 3);
    }

    private static void behindRefused() {
        KeyedTree tree = Talk.pad(new KeyedTree(), "A");
        int[] no = {-1, 4, Integer.MIN_VALUE, Integer.MAX_VALUE};
        for (int set : no) {
            TALLY.due("behind(" + set + ", 9)", tree.behind(set, 9), KeyedTree.UNKNOWN);
        }
        for (int what : no) {
            TALLY.due("behind(0, " + what + ")", tree.behind(0, what), KeyedTree.OUTSIDE);
        }
        for (int what = 0; what <= 3; what++) {
            TALLY.due("behind a fault", tree.behind(3, what), KeyedTree.NO);
        }
        Talk.pad(tree, "A+01B-01");
        for (int what = 0; what <= 3; what++) {
            TALLY.due("behind what can not be", tree.behind(3, what), KeyedTree.STATE);
        }
    }

    private static void alike(KeyedTree tree, String text, int act, int pair) {
        Talk.pad(tree, text);
        TALLY.due("alike(0) of " + text, tree.alike(0), act);
        TALLY.due("alike(1) of " + text, tree.alike(1), pair);
    }

    private static void alike() {
        KeyedTree tree = new KeyedTree();
        alike(tree, "", NONE, NONE);
        alike(tree, "A=BC=D", NONE, NONE);
        alike(tree, "A+01A-01", NONE, NONE);
        alike(tree, "A+05B+05", 1, 1);
        alike(tree, "A+05B+06", NONE, NONE);
        alike(tree, "A+05!C=A", 2, 2);
        alike(tree, "A+05A+06B+05A-06", 3, 1);
        alike(tree, "A+05A/00BC+05D+05", 2, 12);
        Talk.pad(tree, "!!!");
        TALLY.due("alike(2)", tree.alike(2), 3);
        tree.wipe();
        tree.seed(77);
        TALLY.due("alike(2) of no act", tree.alike(2), 77);
    }

    private static void alikeOfPairs() {
        KeyedTree tree = Talk.put(Talk.put(new KeyedTree(), 0, 5), 1, 5);
        alike(tree, "", NONE, NONE);
        alike(tree, "C+01!", NONE, NONE);
        alike(tree, "B+06B-06", 1, 1);
        alike(tree, "D+05", 0, 3);
        alike(tree, "B-05C+05", 1, 2);
        alike(tree, "A-05D=B", 1, 13);
        alike(tree, "C+07D+07", 1, 23);
        alike(tree, "C+07D+07B=C", 1, 23);
        alike(tree, "A+06C=A", 1, 2);
        // The join takes 5 from B, and A has then what C has.
        alike(Talk.put(Talk.put(Talk.with(0, 4), 1, 5), 2, 4, 5), "A&B", 0, 2);
        // The part of A that stays, and the part that goes, are both like another set: the least two.
        alike(Talk.put(Talk.put(Talk.with(1, 4, 5), 2, 4), 3, 5), "B/05A", 0, 3);
    }

    private static void alikeRefused() {
        KeyedTree tree = Talk.pad(new KeyedTree(), "A+");
        int[] no = {-1, 3, Integer.MIN_VALUE, Integer.MAX_VALUE};
        for (int what : no) {
            TALLY.due("alike(" + what + ")", tree.alike(what), KeyedTree.OUTSIDE);
        }
        for (int what = 0; what <= 2; what++) {
            TALLY.due("alike with a fault", tree.alike(what), KeyedTree.NO);
        }
        Talk.pad(tree, "A+01B=AB+01");
        for (int what = 0; what <= 2; what++) {
            TALLY.due("alike, what can not be", tree.alike(what), KeyedTree.STATE);
        }
    }

    private static void done() {
        KeyedTree tree = new KeyedTree();
        TALLY.due("done with nothing", tree.done(), 0);
        Talk.pad(tree, "A+10A+20A+30B=AB-20A/20C!");
        TALLY.due("done", tree.done(), 7);
        TALLY.due("the pad is empty", tree.told(0), 0);
        TALLY.due("A", tree.told(10), 1);
        TALLY.due("B", tree.told(11), 2);
        TALLY.due("C", tree.told(12), 2);
        TALLY.due("C has 20", tree.told(320), 1);
        TALLY.due("the seed", tree.told(1), 1);
        Talk.pad(tree, "A&CC|AC~BD=C");
        TALLY.due("done again", tree.done(), 4);
        TALLY.due("A again", tree.told(10), 3);
        TALLY.due("C again", tree.told(12), 1);
        TALLY.due("D again", tree.at(3, 0), 20);
        Talk.pad(tree, "!!!!!!!!!!!!!!!!!!!!!!!!!!!!!!!!!!!!!!!!!!!!!!!!!!!!!!!!!!!!");
        TALLY.due("sixty acts", tree.done(), 60);
        TALLY.due("the seed again", tree.told(1), 61);
    }

    private static void doneRefused() {
        KeyedTree tree = Talk.pad(new KeyedTree(), "A+01A");
        TALLY.due("done with a fault", tree.done(), KeyedTree.NO);
        Talk.pad(tree, "A+01!A+01");
        TALLY.due("done, what can not be", tree.done(), KeyedTree.STATE);
        TALLY.due("nothing is done", tree.told(10), 0);
        TALLY.due("the seed is left", tree.told(1), 0);
        TALLY.due("the pad is left", tree.told(0), 9);
    }
}
