import java.util.Random;

/** Long runs of calls by chance, each answer held against the model's; the chances are the same every time. */
public final class ModelTest {
    private static final int[] ODD = {
        Integer.MIN_VALUE, Integer.MIN_VALUE + 1, -1000, -101, -100, -7, -6, -5, -4, -3, -2, -1, 0, 1, 2, 3, 4, 5, 6, 7, 8, 9,
        10, 13, 14, 19, 20, 21, 23, 24, 29, 30, 31, 32, 33, 39, 40, 41, 48, 49, 50, 51, 59, 60, 61, 63, 64, 65, 98, 99, 100,
        126, 127, 128, 149, 150, 199, 200, 249, 250, 349, 350, 400, 449, 450, 499, 500, 9998, 9999, 10000, 10006, 10007,
        65536, 65537, 1 << 20, Integer.MAX_VALUE - 1, Integer.MAX_VALUE};

    private final Tally tally = new Tally("ModelTest");
    private final Random chance;
    private final KeyedTree tree = new KeyedTree();
    private final Model model = new Model();
    private final int few;
    private String path = "";
    private int calls;

    private ModelTest(long number) {
        chance = new Random(number);
        few = chance.nextInt(3) == 0 ? 12 : 50;
    }

    private int odd() {
        return ODD[chance.nextInt(ODD.length)];
    }

    /** Mostly a number of 0 to n - 1, at times any. */
    private int num(int n) {
        return chance.nextInt(25) == 0 ? odd() : chance.nextInt(n);
    }

    private int key() {
        return chance.nextInt(25) == 0 ? odd() : chance.nextInt(few);
    }

    private void due(String call, long got, long want) {
        calls++;
        path = path + call + " ";
        tally.due(path, got, want);
    }

    private void say(int sign) {
        due("say(" + sign + ")", tree.say(sign), model.say(sign));
    }

    private String figures() {
        int key = chance.nextInt(few);
        return "" + key / 10 + key % 10;
    }

    private char letter() {
        return (char) ('A' + chance.nextInt(4));
    }

    private String text() {
        switch (chance.nextInt(chance.nextInt(3) == 0 ? 12 : 8)) {
            case 0: return letter() + "+" + figures();
            case 1: return letter() + "-" + figures();
            case 2: return letter() + "/" + figures() + letter();
            case 3: return letter() + "&" + letter();
            case 4: return letter() + "=" + letter();
            case 5: return letter() + "|" + letter();
            case 6: return letter() + "~" + letter();
            case 7: return "!";
            case 8: return "" + (char) (33 + chance.nextInt(94));
            case 9: return letter() + "" + (char) (33 + chance.nextInt(94));
            case 10: return letter() + "/" + (char) (47 + chance.nextInt(12)) + (char) (47 + chance.nextInt(12)) + (char) (64 + chance.nextInt(7));
            default: return letter() + "+" + (char) (47 + chance.nextInt(12)) + (char) (47 + chance.nextInt(12));
        }
    }

    private void talk() {
        if (chance.nextInt(4) == 0) {
            due("wipe()", tree.wipe(), model.wipe());
        }
        int acts = chance.nextInt(7);
        for (int i = 0; i < acts; i++) {
            String text = text();
            for (int k = 0; k < text.length(); k++) {
                say(text.charAt(k));
            }
        }
        due("fault()", tree.fault(), model.fault());
    }

    private void askActs() {
        for (int what = -1; what <= 3; what++) {
            due("judge(" + what + ")", tree.judge(what), model.judge(what));
            due("alike(" + what + ")", tree.alike(what), model.alike(what));
        }
        int set = num(4);
        for (int what = -1; what <= 4; what++) {
            due("behind(" + set + ", " + what + ")", tree.behind(set, what), model.behind(set, what));
        }
        if (chance.nextBoolean()) {
            due("done()", tree.done(), model.done());
        }
        if (model.judge(0) != KeyedTree.NONE) {
            due("wipe()", tree.wipe(), model.wipe());
        }
    }

    private void putKeys() {
        int set = num(4);
        boolean is = chance.nextInt(5) != 0;
        int many = chance.nextInt(6) == 0 ? 45 : 3;
        for (int i = 0; i < many; i++) {
            int key = key();
            due("put(" + set + ", " + key + ", " + is + ")", tree.put(set, key, is), model.put(set, key, is));
        }
    }

    private void askNodes() {
        int set = num(4);
        int other = num(4);
        int key = key();
        int what = num(7);
        due("node(" + set + ", " + key + ", " + what + ")", tree.node(set, key, what), model.node(set, key, what));
        int inside = model.at(set, num(Math.max(1, model.told(10 + Math.floorMod(set, 4)))));
        due("node(" + set + ", " + inside + ", " + what + ")", tree.node(set, inside, what), model.node(set, inside, what));
        due("place(" + set + ", " + key + ")", tree.place(set, key), model.place(set, key));
        due("at(" + set + ", " + key + ")", tree.at(set, key), model.at(set, key));
        what = num(3);
        due("apart(" + set + ", " + other + ", " + what + ")", tree.apart(set, other, what), model.apart(set, other, what));
        due("differs(" + set + ", " + other + ", " + key + ")", tree.differs(set, other, key), model.differs(set, other, key));
        due("orders(" + set + ")", tree.orders(set), model.orders(set));
    }

    private void askSeeds() {
        int one = key();
        int other = key();
        due("above(" + one + ", " + other + ")", tree.above(one, other), model.above(one, other));
        int i = chance.nextInt(3) == 0 ? odd() : chance.nextInt(3000) - 1;
        due("seeds(" + i + ")", tree.seeds(i), model.seeds(i));
        due("seeds(-1)", tree.seeds(-1), model.seeds(-1));
        if (chance.nextInt(8) == 0) {
            due("forget()", tree.forget(), model.forget());
        }
    }

    private void askRest() {
        int n = num(31);
        int i = num(20);
        int part = num(2);
        due("shapes(" + n + ")", tree.shapes(n), model.shapes(n));
        due("deep(" + n + ", " + i + ", " + part + ")", tree.deep(n, i, part), model.deep(n, i, part));
        int number = num(10000);
        int m = num(100);
        int what = num(3);
        due("run(" + number + ", " + m + ", " + what + ")", tree.run(number, m, what), model.run(number, m, what));
        int k = num(2);
        due("image(" + k + ")", tree.image(k), model.image(k));
    }

    private void step() {
        switch (chance.nextInt(12)) {
            case 0: {
                int v = chance.nextInt(3) == 0 ? 9990 + chance.nextInt(12) : num(10000);
                due("seed(" + v + ")", tree.seed(v), model.seed(v));
                break;
            }
            case 1: case 2: case 3: putKeys(); break;
            case 4: case 5: case 6: talk(); askActs(); break;
            case 7: case 8: askNodes(); break;
            case 9: if (chance.nextInt(4) == 0) { askSeeds(); } break;
            case 10: askRest(); break;
            default: {
                int k = num(2);
                due("restore(" + k + ")", tree.restore(k), model.restore(k));
                say(odd());
            }
        }
        int what = odd();
        due("told(" + what + ")", tree.told(what), model.told(what));
        due("told(20)", tree.told(20), model.told(20));
    }

    public static void main(String[] args) {
        int runs = args.length > 0 ? Integer.parseInt(args[0]) : 1500;
        Tally all = new Tally("ModelTest");
        for (int number = 0; number < runs && all.wrongs() == 0; number++) {
            ModelTest run = new ModelTest(number);
            // An object answers 512 calls, and no step takes more than a hundred.
            while (run.calls < 410 && run.tally.wrongs() == 0) {
                run.step();
            }
            all.due("run " + number + ", wrong answers", run.tally.wrongs(), 0);
        }
        all.end();
    }
}
