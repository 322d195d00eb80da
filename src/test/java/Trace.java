import java.util.ArrayList;
import java.util.List;

/** All that can be asked of an object, asked in one order: two objects that answer alike are alike. */
final class Trace {
    private final KeyedTree tree;
    private final List<String> rows = new ArrayList<>();

    private Trace(KeyedTree tree) {
        this.tree = tree;
    }

    /** What the second one answers otherwise than the first one, or nothing; some 290 calls of each. */
    static String firstChange(KeyedTree one, KeyedTree other) {
        List<String> ones = new Trace(one).ask();
        List<String> others = new Trace(other).ask();
        for (int i = 0; i < ones.size(); i++) {
            if (!ones.get(i).equals(others.get(i))) {
                return ones.get(i) + " to " + others.get(i);
            }
        }
        return "";
    }

    private void add(String call) {
        rows.add(call + " " + Sentences.call(tree, call));
    }

    private void each(String call, int first, int last) {
        for (int i = first; i <= last; i++) {
            add(call.replace("#", "" + i));
        }
    }

    private List<String> ask() {
        askSums();
        for (int set = 1; set <= 4; set++) {
            each("told(#)", 100 * set, 100 * set + 49);
        }
        add("fault()");
        each("judge(#)", 0, 2);
        each("alike(#)", 0, 2);
        for (int set = 0; set < 4; set++) {
            each("behind(" + set + ", #)", 0, 3);
        }
        each("seeds(#)", 0, 3);
        each("orders(#)", 0, 3);
        each("run(4321, 99, #)", 0, 2);
        add("forget()");
        add("done()");
        add("wipe()");
        askSums();
        for (int k = 0; k < 2; k++) {
            add("restore(" + k + ")");
            askSums();
            add("forget()");
        }
        return rows;
    }

    private void askSums() {
        each("told(#)", 0, 2);
        each("told(#)", 10, 13);
        each("told(#)", 20, 23);
        add("seeds(-1)");
    }
}
