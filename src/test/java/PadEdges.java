/** The edges of the pad: its signs, the acts that they tell, the fault, and why an act can not be. */
final class PadEdges {
    private static final int NONE = KeyedTree.NONE;
    private static final int MIN = Integer.MIN_VALUE;
    private static final int MAX = Integer.MAX_VALUE;

    private PadEdges() {
    }

    static void hold(Sentences s) {
        padHasUpTo60Signs(s);
        signsAre33To126(s);
        keyIsPutIn(s);
        keyIsTakenOut(s);
        setIsParted(s);
        setIsJoined(s);
        setHasTheKeysOfTheOther(s);
        setHasThoseOfTheOtherToo(s);
        setHasNoneOfThoseOfTheOther(s);
        seedIs1More(s);
        twoFiguresAre00To49(s);
        faultIsTheFirstSignThatCanNotStand(s);
        faultIsTheNumberOfSignsIfMoreMustCome(s);
        bothSetsAreOne(s);
        keyIsInAlreadyOrIsNot(s);
        moreThan40Keys(s);
        otherSetHasKeys(s);
        someKeyIsNotGreater(s);
        seedIs9999(s);
        leastReasonIsTold(s);
    }

    private static KeyedTree padOf(String text) {
        return Talk.pad(new KeyedTree(), text);
    }

    /** How many keys each set has behind these acts, which can all be. */
    private static void keysBehind(Sentences s, KeyedTree tree, String text, int... want) {
        Talk.pad(tree, text);
        s.due(text + " can be", tree.judge(0), NONE);
        for (int set = 0; set < want.length; set++) {
            s.due("keys of set " + set + " behind " + text, tree.behind(set, 0), want[set]);
        }
    }

    private static void canNotBe(Sentences s, KeyedTree tree, String text, int act, int why) {
        Talk.pad(tree, text);
        s.due("act of " + text, tree.judge(0), act);
        s.due("reason of " + text, tree.judge(1), why);
    }

    private static void padHasUpTo60Signs(Sentences s) {
        s.of("Terms", "ACTS are told on a PAD of up to 60 signs");
        KeyedTree tree = new KeyedTree();
        for (int i = 1; i <= 60; i++) {
            s.due("sign " + i, tree.say('!'), i);
        }
        s.all(tree, "say(33)", KeyedTree.FULL, "told(0)", 60, "alike(2)", 60, "done()", 60, "told(0)", 0, "say(33)", 1);
    }

    private static void signsAre33To126(Sentences s) {
        s.of("Terms", "(codes 33 to 126):");
        KeyedTree tree = new KeyedTree();
        s.each(tree, "say(#)", KeyedTree.OUTSIDE, 32, 127, 0, -1, 65 + 256, 65 + 65536, MIN, MAX);
        s.all(tree, "told(0)", 0, "say(33)", 1, "say(126)", 2);
        for (int sign = 33; sign <= 126; sign++) {
            s.due("sign " + sign, new KeyedTree().say(sign), 1);
        }
    }

    private static void keyIsPutIn(Sentences s) {
        s.of("Terms", "a SET's letter and: + and two figures (that KEY is put in),");
        KeyedTree tree = padOf("A+00A+49D+00D+49");
        s.all(tree, "done()", 4, "told(100)", 1, "told(149)", 1, "told(10)", 2, "told(400)", 1, "told(449)", 1, "told(13)", 2,
            "told(11)", 0, "told(12)", 0);
    }

    private static void keyIsTakenOut(Sentences s) {
        s.of("Terms", "- and two figures (it is taken out),");
        KeyedTree tree = Talk.pad(Talk.put(Talk.with(0, 0, 25, 49), 3, 49), "A-00A-49D-49");
        s.all(tree, "done()", 3, "told(10)", 1, "at(0, 0)", 25, "told(13)", 0, "told(23)", 0);
    }

    private static void setIsParted(Sentences s) {
        s.of("Terms", "/ and two figures and a SET's letter (PARTED: the KEYS that are not less than that are in the other SET then, "
            + "and not in this),");
        keysBehind(s, Talk.with(0, 0, 25, 49), "A/00B", 0, 3);
        keysBehind(s, Talk.with(0, 0, 25, 49), "A/01B", 1, 2);
        keysBehind(s, Talk.with(0, 0, 25, 49), "A/25B", 1, 2);
        keysBehind(s, Talk.with(0, 0, 25, 49), "A/26B", 2, 1);
        keysBehind(s, Talk.with(0, 0, 25, 49), "A/49D", 2, 0, 0, 1);
        keysBehind(s, Talk.with(0, 0, 25), "A/49D", 2, 0, 0, 0);
        keysBehind(s, new KeyedTree(), "A/00B", 0, 0);
        keysBehind(s, Talk.fill(new KeyedTree(), 3, 0, 39), "D/00A", 40, 0, 0, 0);
        KeyedTree tree = Talk.pad(Talk.with(0, 0, 25, 49), "A/25B");
        s.all(tree, "done()", 1, "at(0, 0)", 0, "at(0, 1)", NONE, "at(1, 0)", 25, "at(1, 1)", 49, "at(1, 2)", NONE);
    }

    private static void setIsJoined(Sentences s) {
        s.of("Terms", "& and a SET's letter (JOINED: the KEYS of the other SET are in this then, the other has none),");
        keysBehind(s, Talk.put(Talk.with(0, 0, 24), 1, 25, 49), "A&B", 4, 0);
        keysBehind(s, Talk.with(1, 25, 49), "A&B", 2, 0);
        keysBehind(s, Talk.with(0, 25, 49), "A&B", 2, 0);
        keysBehind(s, new KeyedTree(), "A&B", 0, 0);
        keysBehind(s, Talk.fill(Talk.fill(new KeyedTree(), 0, 0, 19), 1, 30, 49), "A&B", 40, 0);
        keysBehind(s, Talk.fill(new KeyedTree(), 1, 10, 49), "D&B", 0, 0, 0, 40);
    }

    private static void setHasTheKeysOfTheOther(Sentences s) {
        s.of("Terms", "= and a SET's letter (it has the KEYS of the other one),");
        keysBehind(s, Talk.put(Talk.with(0, 1, 2), 1, 2, 3, 4), "A=B", 3, 3);
        keysBehind(s, Talk.with(0, 1, 2), "A=B", 0, 0);
        keysBehind(s, Talk.with(0, 1, 2), "B=A", 2, 2);
        keysBehind(s, new KeyedTree(), "A=B", 0, 0);
        keysBehind(s, Talk.fill(Talk.fill(new KeyedTree(), 0, 0, 39), 1, 10, 49), "A=BD=A", 40, 40, 0, 40);
    }

    private static void setHasThoseOfTheOtherToo(Sentences s) {
        s.of("Terms", "| and a SET's letter (it has those of the other one, too),");
        keysBehind(s, Talk.put(Talk.with(0, 1, 2), 1, 2, 3, 4), "A|B", 4, 3);
        keysBehind(s, Talk.with(0, 1, 2), "A|B", 2, 0);
        keysBehind(s, Talk.with(0, 1, 2), "B|A", 2, 2);
        keysBehind(s, new KeyedTree(), "A|B", 0, 0);
        keysBehind(s, Talk.fill(Talk.fill(new KeyedTree(), 0, 0, 29), 1, 10, 39), "A|B", 40, 30);
        keysBehind(s, Talk.fill(Talk.fill(new KeyedTree(), 0, 0, 39), 1, 0, 39), "A|B", 40, 40);
    }

    private static void setHasNoneOfThoseOfTheOther(Sentences s) {
        s.of("Terms", "or ~ and a SET's letter (it has none of those of the other one);");
        keysBehind(s, Talk.put(Talk.with(0, 1, 2), 1, 2, 3, 4), "A~B", 1, 3);
        keysBehind(s, Talk.put(Talk.with(0, 1, 2), 1, 3, 4), "A~B", 2, 2);
        keysBehind(s, Talk.with(0, 1, 2), "A~B", 2, 0);
        keysBehind(s, Talk.with(1, 1, 2), "A~B", 0, 2);
        keysBehind(s, Talk.put(Talk.with(0, 0, 49), 1, 0, 49), "A~B", 0, 2);
        keysBehind(s, Talk.fill(Talk.fill(new KeyedTree(), 0, 0, 39), 1, 10, 49), "A~B", 10, 40);
    }

    private static void seedIs1More(Sentences s) {
        s.of("Terms", "or ! (the SEED is 1 more).");
        KeyedTree tree = padOf("!");
        s.all(tree, "alike(2)", 1, "done()", 1, "told(1)", 1, "seed(9998)", 1, "say(33)", 1, "done()", 1, "told(1)", 9999);
        s.due("! has no letter ahead of it", padOf("A!").fault(), 1);
        s.due("! has no letter behind it that ends there", padOf("!A").fault(), 2);
    }

    private static void twoFiguresAre00To49(Sentences s) {
        s.of("Terms", "Two figures: 00 to 49.");
        for (int key = 0; key <= 99; key++) {
            String figures = "" + key / 10 + key % 10;
            int want = key <= 49 ? NONE : 2;
            s.due("A+" + figures, padOf("A+" + figures).fault(), want);
            s.due("A-" + figures, padOf("A-" + figures).fault(), want);
            s.due("A/" + figures + "B", padOf("A/" + figures + "B").fault(), want);
            if (key <= 49) {
                KeyedTree tree = padOf("B+" + figures);
                s.all(tree, "done()", 1, "at(1, 0)", key);
            }
        }
        s.due("/ is just below 0", padOf("A+/0").fault(), 2);
        s.due("5 is no first figure, whatever comes", padOf("A+5").fault(), 2);
        s.due("/ is no second figure", padOf("A+4/").fault(), 3);
        s.due(": is just above 9", padOf("A+4:").fault(), 3);
        s.due("one figure alone", padOf("A+4B").fault(), 3);
        s.due("three figures", padOf("A+049").fault(), 4);
    }

    private static void faultIsTheFirstSignThatCanNotStand(Sentences s) {
        s.of("Terms", "THE FAULT: the place (from 0 on) of the first sign that can not stand there,");
        s.due("at 0", padOf("x").fault(), 0);
        s.due("the first of two", padOf("AxB+99").fault(), 1);
        s.due("what is good behind it does not matter", padOf("xA+00").fault(), 0);
        s.due("at 59, the last", padOf("!".repeat(59) + "x").fault(), 59);
        s.due("at 58", padOf("!".repeat(57) + "Axy").fault(), 58);
        // In each place, each sign of all that can be said: which can stand there.
        String[] heads = {"", "A", "B+", "C-0", "D/", "A/3", "B/49", "C&", "D=", "A|", "B~"};
        String[] good = {"ABCD!", "+-/&=|~", "01234", "0123456789", "01234", "0123456789", "ABCD", "ABCD", "ABCD", "ABCD", "ABCD"};
        for (int i = 0; i < heads.length; i++) {
            for (char sign = 33; sign <= 126; sign++) {
                boolean stands = padOf(heads[i] + sign).fault() != heads[i].length();
                s.must(sign + " behind '" + heads[i] + "'", stands == good[i].indexOf(sign) >= 0);
            }
        }
    }

    private static void faultIsTheNumberOfSignsIfMoreMustCome(Sentences s) {
        s.of("Terms", "or the number of signs, if more must come.");
        String[] begun = {"A", "A+", "A+0", "A-", "A-4", "A/", "A/0", "A/00", "A&", "A=", "A|", "A~"};
        for (String text : begun) {
            s.due(text, padOf(text).fault(), text.length());
            s.due("!!" + text, padOf("!!" + text).fault(), 2 + text.length());
            String whole = "!".repeat(60 - text.length()) + text;
            s.due("a full pad that ends with " + text, padOf(whole).fault(), 60);
        }
        s.due("no sign, so no more must come", padOf("").fault(), NONE);
        s.due("a full pad of whole acts", padOf(Makes.SIXTY).fault(), NONE);
    }

    private static void bothSetsAreOne(Sentences s) {
        s.of("Terms", "An ACT can not be for the least of these reasons: 1 both SETS are one (/, &, =, |, ~);");
        String[] acts = {"A/00A", "A/49A", "A&A", "A=A", "A|A", "A~A", "D/25D", "D&D", "D=D", "D|D", "D~D"};
        for (String act : acts) {
            canNotBe(s, new KeyedTree(), act, 0, 1);
            canNotBe(s, Talk.put(Talk.with(0, 5), 3, 0, 49), act, 0, 1);
            canNotBe(s, Talk.fill(Talk.fill(new KeyedTree(), 0, 0, 39), 3, 0, 39), act, 0, 1);
        }
    }

    private static void keyIsInAlreadyOrIsNot(Sentences s) {
        s.of("Terms", "2 the KEY is in already (+), is not (-);");
        canNotBe(s, Talk.with(0, 0), "A+00", 0, 2);
        canNotBe(s, Talk.with(3, 49), "D+49", 0, 2);
        canNotBe(s, new KeyedTree(), "A-00", 0, 2);
        canNotBe(s, Talk.with(0, 48), "A-49", 0, 2);
        canNotBe(s, Talk.with(0, 49), "B-49", 0, 2);
        canNotBe(s, new KeyedTree(), "A+05A+05", 1, 2);
        canNotBe(s, Talk.with(0, 5), "A-05A-05", 1, 2);
        keysBehind(s, Talk.with(0, 0), "B+00A-00", 0, 1);
    }

    private static void moreThan40Keys(Sentences s) {
        s.of("Terms", "3 it would have more than 40 KEYS (+, &, |);");
        KeyedTree of40 = Talk.fill(new KeyedTree(), 0, 0, 39);
        canNotBe(s, of40, "A+40", 0, 3);
        canNotBe(s, of40, "A-00A+40A+00", 2, 3);
        keysBehind(s, of40, "A-00A+40", 40);
        keysBehind(s, Talk.fill(new KeyedTree(), 0, 1, 39), "A+49", 40);
        KeyedTree joined = Talk.fill(Talk.fill(new KeyedTree(), 0, 0, 19), 1, 29, 49);
        canNotBe(s, joined, "A&B", 0, 3);
        canNotBe(s, joined, "A|B", 0, 3);
        canNotBe(s, joined, "B|A", 0, 3);
        joined.put(1, 29, false);
        keysBehind(s, joined, "A&B", 40, 0);
        keysBehind(s, joined, "A|B", 40, 20);
        KeyedTree over = Talk.fill(Talk.fill(new KeyedTree(), 0, 0, 29), 1, 10, 40);
        canNotBe(s, over, "A|B", 0, 3);
        canNotBe(s, over, "A&B", 0, 3);
        over.put(1, 40, false);
        keysBehind(s, over, "A|B", 40, 30);
        KeyedTree one = Talk.put(Talk.fill(new KeyedTree(), 0, 0, 39), 1, 40);
        canNotBe(s, one, "A&B", 0, 3);
        keysBehind(s, one, "A&C", 40, 1);
        keysBehind(s, one, "C&A", 0, 1, 40);
        keysBehind(s, one, "A~BA=B", 1, 1);
    }

    private static void otherSetHasKeys(Sentences s) {
        s.of("Terms", "4 the other SET has KEYS (/);");
        KeyedTree tree = Talk.put(Talk.with(0, 5, 9), 1, 49);
        canNotBe(s, tree, "A/00B", 0, 4);
        canNotBe(s, tree, "A/10B", 0, 4);
        canNotBe(s, tree, "C/00B", 0, 4);
        canNotBe(s, tree, "A/00CB/00C", 1, 4);
        keysBehind(s, tree, "A/06C", 1, 1, 1);
        keysBehind(s, tree, "B-49A/00B", 0, 2);
        keysBehind(s, tree, "C/00D", 2, 1, 0, 0);
    }

    private static void someKeyIsNotGreater(Sentences s) {
        s.of("Terms", "5 some KEY of the other SET is not greater than all of this (&);");
        KeyedTree tree = Talk.put(Talk.put(Talk.put(Talk.with(0, 10, 20), 1, 20), 2, 21), 3, 19, 49);
        canNotBe(s, tree, "A&B", 0, 5);
        canNotBe(s, tree, "A&D", 0, 5);
        canNotBe(s, tree, "C&A", 0, 5);
        canNotBe(s, tree, "B&A", 0, 5);
        keysBehind(s, tree, "A&C", 3, 1, 0, 2);
        keysBehind(s, tree, "D-19A&D", 3, 1, 1, 0);
        canNotBe(s, Talk.put(Talk.with(0, 0, 49), 1, 25), "A&B", 0, 5);
        canNotBe(s, Talk.put(Talk.with(0, 49), 1, 0), "A&B", 0, 5);
        canNotBe(s, Talk.put(Talk.with(0, 49), 1, 49), "A&B", 0, 5);
        canNotBe(s, Talk.put(Talk.with(0, 0), 1, 0), "A&B", 0, 5);
        keysBehind(s, Talk.put(Talk.with(0, 0), 1, 49), "A&B", 2, 0);
        keysBehind(s, Talk.put(Talk.with(0, 48), 1, 49), "A&B", 2, 0);
        keysBehind(s, Talk.put(Talk.with(0, 0), 1, 1), "A&B", 2, 0);
    }

    private static void seedIs9999(Sentences s) {
        s.of("Terms", "6 the SEED is 9999 (!).");
        KeyedTree tree = new KeyedTree();
        tree.seed(9999);
        canNotBe(s, tree, "!", 0, 6);
        tree.seed(9998);
        canNotBe(s, tree, "!!", 1, 6);
        keysBehind(s, tree, "!", 0, 0, 0, 0);
        tree.seed(9940);
        canNotBe(s, tree, "!".repeat(60), 59, 6);
        tree.seed(9939);
        keysBehind(s, tree, "!".repeat(60), 0, 0, 0, 0);
        s.due("the greatest seed behind it", tree.alike(2), 9999);
    }

    /** Two reasons fit each of these acts. */
    private static void leastReasonIsTold(Sentences s) {
        s.of("Terms", "An ACT can not be for the least of these reasons:");
        canNotBe(s, Talk.with(0, 5), "A/00A", 0, 1);
        canNotBe(s, Talk.with(0, 5), "A&A", 0, 1);
        KeyedTree of40 = Talk.fill(new KeyedTree(), 0, 10, 49);
        canNotBe(s, of40, "A+10", 0, 2);
        canNotBe(s, of40, "A+49", 0, 2);
        Talk.put(of40, 1, 0, 20);
        canNotBe(s, of40, "A&B", 0, 3);
        canNotBe(s, of40, "B&A", 0, 3);
        // Together they have 30 keys, told twice 60: no more than 40, so 3 does not fit.
        canNotBe(s, Talk.fill(Talk.fill(new KeyedTree(), 0, 0, 29), 1, 0, 29), "A&B", 0, 5);
    }
}
