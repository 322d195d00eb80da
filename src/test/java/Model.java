import java.math.BigInteger;
import java.util.ArrayList;
import java.util.Comparator;
import java.util.HashMap;
import java.util.List;
import java.util.Map;
import java.util.TreeMap;
import java.util.TreeSet;
import java.util.regex.Matcher;
import java.util.regex.Pattern;

/**
 * The document once more, word by word and with no thought of speed: trees are made of nodes, keys are
 * put in and parted, texts are held against a pattern, fractions and orders are counted in full.
 * It shares no way of doing a thing with the program, so that both are unlikely to be wrong alike.
 */
final class Model {
    private static final Pattern ACT =
        Pattern.compile("([A-D])([+-])([0-4][0-9])|([A-D])(/)([0-4][0-9])([A-D])|([A-D])([&=|~])([A-D])|!");
    private static final Pattern ACTS = Pattern.compile("(?:" + ACT.pattern() + ")*");
    private static final String[] REST = {"", "+00", "00", "0", "00A", "0A", "A"};

    /** A tree of one key and two trees; null is the tree of no keys. */
    private record Node(int key, Node left, Node right) {
        TreeSet<Integer> keys() {
            TreeSet<Integer> all = new TreeSet<>();
            all.add(key);
            if (left != null) {
                all.addAll(left.keys());
            }
            if (right != null) {
                all.addAll(right.keys());
            }
            return all;
        }
    }

    /** The sets and the seed. */
    private static final class Things {
        int seed;
        final List<TreeSet<Integer>> sets = new ArrayList<>();

        Things() {
            for (int i = 0; i < 4; i++) {
                sets.add(new TreeSet<>());
            }
        }

        Things(Things from) {
            seed = from.seed;
            for (TreeSet<Integer> set : from.sets) {
                sets.add(new TreeSet<>(set));
            }
        }
    }

    private record Deed(char kind, int set, int key, int other) {
    }

    private record Kept(Things things, List<int[]> sights) {
    }

    private Things now = new Things();
    private final StringBuilder pad = new StringBuilder();
    private List<int[]> sights = new ArrayList<>();
    private final Map<Integer, Kept> images = new HashMap<>();

    // ---- trees

    private static int priority(int seed, int key) {
        long x = Math.floorMod(seed + 131L * key, 10007L);
        return (int) (x * x % 10007);
    }

    private static Comparator<Integer> byRank(int seed) {
        return Comparator.<Integer>comparingInt(key -> -priority(seed, key)).thenComparing(key -> key);
    }

    private static boolean ranksAbove(int seed, int one, int other) {
        return byRank(seed).compare(one, other) < 0;
    }

    private static Node lessThan(Node tree, int key) {
        if (tree == null) {
            return null;
        }
        return tree.key < key ? new Node(tree.key, tree.left, lessThan(tree.right, key)) : lessThan(tree.left, key);
    }

    private static Node notLessThan(Node tree, int key) {
        if (tree == null) {
            return null;
        }
        return tree.key < key ? notLessThan(tree.right, key) : new Node(tree.key, notLessThan(tree.left, key), tree.right);
    }

    private static Node putIn(Node tree, int key, int seed) {
        if (tree == null || ranksAbove(seed, key, tree.key)) {
            return new Node(key, lessThan(tree, key), notLessThan(tree, key));
        }
        return key < tree.key
            ? new Node(tree.key, putIn(tree.left, key, seed), tree.right)
            : new Node(tree.key, tree.left, putIn(tree.right, key, seed));
    }

    private static Node madeOne(Node one, Node other, int seed) {
        if (one == null || other == null) {
            return one == null ? other : one;
        }
        return ranksAbove(seed, one.key, other.key)
            ? new Node(one.key, one.left, madeOne(one.right, other, seed))
            : new Node(other.key, madeOne(one, other.left, seed), other.right);
    }

    private static Node takenOut(Node tree, int key, int seed) {
        if (tree == null) {
            return null;
        }
        if (key == tree.key) {
            return madeOne(tree.left, tree.right, seed);
        }
        return key < tree.key
            ? new Node(tree.key, takenOut(tree.left, key, seed), tree.right)
            : new Node(tree.key, tree.left, takenOut(tree.right, key, seed));
    }

    /** Keys come from the middle outward, with one that comes and goes: the tree remembers nothing of it. */
    private static Node tree(TreeSet<Integer> keys, int seed) {
        List<Integer> order = new ArrayList<>(keys);
        order.sort(Comparator.<Integer>comparingInt(key -> Math.abs(key - 25)).thenComparing(key -> -key));
        Node tree = null;
        for (int key : order) {
            tree = putIn(tree, key, seed);
        }
        for (int guest = 0; guest < 50; guest += 7) {
            if (!keys.contains(guest)) {
                tree = takenOut(putIn(tree, guest, seed), guest, seed);
            }
        }
        return tree;
    }

    private static long digest(Node tree) {
        if (tree == null) {
            return 0;
        }
        return 1 + (31 * digest(tree.left) + 57 * digest(tree.right) + 7919L * (tree.key + 1)) % 999983;
    }

    private static int longest(Node tree) {
        return tree == null ? 0 : 1 + Math.max(longest(tree.left), longest(tree.right));
    }

    /** The way from the root to a key: both among them. */
    private static List<Node> way(Node tree, int key) {
        List<Node> way = new ArrayList<>();
        for (Node at = tree; at != null; at = key < at.key ? at.left : at.right) {
            way.add(at);
            if (at.key == key) {
                break;
            }
        }
        return way;
    }

    private static Map<Integer, TreeSet<Integer>> keysOfTrees(Node tree) {
        Map<Integer, TreeSet<Integer>> all = new TreeMap<>();
        if (tree != null) {
            all.putAll(keysOfTrees(tree.left));
            all.putAll(keysOfTrees(tree.right));
            all.put(tree.key, tree.keys());
        }
        return all;
    }

    private static int rootOf(Node tree) {
        return tree == null ? -6 : tree.key;
    }

    private static boolean noSet(int set) {
        return set < 0 || set > 3;
    }

    private static boolean noKey(int key) {
        return key < 0 || key > 49;
    }

    private static int ith(Iterable<Integer> keys, int i) {
        int at = 0;
        for (int key : keys) {
            if (at++ == i) {
                return key;
            }
        }
        return -6;
    }

    // ---- 1

    int seed(int v) {
        if (v < 0 || v > 9999) {
            return -2;
        }
        int was = now.seed;
        now.seed = v;
        return was;
    }

    int put(int set, int key, boolean is) {
        if (noSet(set) || noKey(key)) {
            return -1;
        }
        TreeSet<Integer> keys = now.sets.get(set);
        if (is && !keys.contains(key) && keys.size() == 40) {
            return -4;
        }
        if (is) {
            keys.add(key);
        } else {
            keys.remove(key);
        }
        return keys.size();
    }

    int say(int sign) {
        if (sign < 33 || sign > 126) {
            return -2;
        }
        if (pad.length() == 60) {
            return -4;
        }
        pad.append((char) sign);
        return pad.length();
    }

    int wipe() {
        int were = pad.length();
        pad.setLength(0);
        return were;
    }

    int fault() {
        for (int i = 0; i < pad.length(); i++) {
            boolean canStand = false;
            for (String rest : REST) {
                canStand |= ACTS.matcher(pad.substring(0, i + 1) + rest).matches();
            }
            if (!canStand) {
                return i;
            }
        }
        return ACTS.matcher(pad).matches() ? -6 : pad.length();
    }

    // ---- 2

    private List<Deed> deeds() {
        List<Deed> all = new ArrayList<>();
        Matcher m = ACT.matcher(pad);
        while (m.find()) {
            if (m.group(2) != null) {
                all.add(new Deed(m.group(2).charAt(0), m.group(1).charAt(0) - 'A', Integer.parseInt(m.group(3)), 9));
            } else if (m.group(5) != null) {
                all.add(new Deed('/', m.group(4).charAt(0) - 'A', Integer.parseInt(m.group(6)), m.group(7).charAt(0) - 'A'));
            } else if (m.group(9) != null) {
                all.add(new Deed(m.group(9).charAt(0), m.group(8).charAt(0) - 'A', 0, m.group(10).charAt(0) - 'A'));
            } else {
                all.add(new Deed('!', 9, 0, 9));
            }
        }
        return all;
    }

    private static int whyNot(Things t, Deed d) {
        if ("/&=|~".indexOf(d.kind) >= 0 && d.set == d.other) {
            return 1;
        }
        if ("+-".indexOf(d.kind) >= 0 && t.sets.get(d.set).contains(d.key) != (d.kind == '-')) {
            return 2;
        }
        if ("+&|".indexOf(d.kind) >= 0) {
            TreeSet<Integer> would = new TreeSet<>(t.sets.get(d.set));
            if (d.kind == '+') {
                would.add(d.key);
            } else {
                would.addAll(t.sets.get(d.other));
            }
            if (would.size() > 40) {
                return 3;
            }
        }
        if (d.kind == '/' && !t.sets.get(d.other).isEmpty()) {
            return 4;
        }
        if (d.kind == '&') {
            for (int theirs : t.sets.get(d.other)) {
                for (int own : t.sets.get(d.set)) {
                    if (theirs <= own) {
                        return 5;
                    }
                }
            }
        }
        return d.kind == '!' && t.seed == 9999 ? 6 : 0;
    }

    private static Things played(Things from, Deed d) {
        Things t = new Things(from);
        if (d.kind == '!') {
            t.seed++;
            return t;
        }
        TreeSet<Integer> own = t.sets.get(d.set);
        TreeSet<Integer> other = d.other > 3 ? null : t.sets.get(d.other);
        if (d.kind == '+') {
            own.add(d.key);
        } else if (d.kind == '-') {
            own.remove(d.key);
        } else if (d.kind == '/') {
            other.addAll(own.tailSet(d.key));
            own.removeIf(key -> key >= d.key);
        } else if (d.kind == '&') {
            own.addAll(other);
            other.clear();
        } else if (d.kind == '=') {
            own.clear();
            own.addAll(other);
        } else if (d.kind == '|') {
            own.addAll(other);
        } else {
            own.removeAll(other);
        }
        return t;
    }

    /** All things ahead of and behind each act, as far as they can be. */
    private List<Things> stages() {
        List<Things> stages = new ArrayList<>();
        stages.add(now);
        for (Deed d : deeds()) {
            Things last = stages.get(stages.size() - 1);
            if (whyNot(last, d) != 0) {
                break;
            }
            stages.add(played(last, d));
        }
        return stages;
    }

    private int refusal(List<Things> stages) {
        return fault() != -6 ? -5 : stages.size() <= deeds().size() ? -3 : 0;
    }

    private static int work(Things ahead, Things behind) {
        int work = 0;
        for (int set = 0; set < 4; set++) {
            Map<Integer, TreeSet<Integer>> was = keysOfTrees(tree(ahead.sets.get(set), ahead.seed));
            Map<Integer, TreeSet<Integer>> is = keysOfTrees(tree(behind.sets.get(set), behind.seed));
            for (int key : is.keySet()) {
                if (!was.containsKey(key) || !was.get(key).equals(is.get(key))) {
                    work++;
                }
            }
        }
        return work;
    }

    int judge(int what) {
        if (what < 0 || what > 2) {
            return -2;
        }
        List<Things> stages = stages();
        int refusal = refusal(stages);
        if (refusal == -5 || what == 2 && refusal != 0) {
            return refusal;
        }
        if (what == 2) {
            int work = 0;
            for (int i = 1; i < stages.size(); i++) {
                work += work(stages.get(i - 1), stages.get(i));
            }
            return work;
        }
        int bad = stages.size() - 1;
        if (bad == deeds().size()) {
            return -6;
        }
        return what == 0 ? bad : whyNot(stages.get(bad), deeds().get(bad));
    }

    int behind(int set, int what) {
        if (noSet(set)) {
            return -1;
        }
        if (what < 0 || what > 3) {
            return -2;
        }
        List<Things> stages = stages();
        int refusal = refusal(stages);
        if (refusal != 0) {
            return refusal;
        }
        Things last = stages.get(stages.size() - 1);
        Node tree = tree(last.sets.get(set), last.seed);
        return what == 0 ? last.sets.get(set).size()
            : what == 1 ? (int) digest(tree) : what == 2 ? rootOf(tree) : longest(tree);
    }

    private static TreeSet<Integer> pairsAlike(Things t) {
        TreeSet<Integer> pairs = new TreeSet<>();
        for (int one = 0; one < 4; one++) {
            for (int other = one + 1; other < 4; other++) {
                if (t.sets.get(one).equals(t.sets.get(other)) && !t.sets.get(one).isEmpty()) {
                    pairs.add(10 * one + other);
                }
            }
        }
        return pairs;
    }

    int alike(int what) {
        if (what < 0 || what > 2) {
            return -2;
        }
        List<Things> stages = stages();
        int refusal = refusal(stages);
        if (refusal != 0) {
            return refusal;
        }
        if (what == 2) {
            return stages.get(stages.size() - 1).seed;
        }
        for (int i = 1; i < stages.size(); i++) {
            TreeSet<Integer> pairs = pairsAlike(stages.get(i));
            pairs.removeAll(pairsAlike(stages.get(i - 1)));
            if (!pairs.isEmpty()) {
                return what == 0 ? i - 1 : pairs.first();
            }
        }
        return -6;
    }

    int done() {
        List<Things> stages = stages();
        int refusal = refusal(stages);
        if (refusal != 0) {
            return refusal;
        }
        now = new Things(stages.get(stages.size() - 1));
        pad.setLength(0);
        return stages.size() - 1;
    }

    // ---- 3

    int node(int set, int key, int what) {
        if (noSet(set) || noKey(key)) {
            return -1;
        }
        if (what < 0 || what > 6) {
            return -2;
        }
        if (!now.sets.get(set).contains(key)) {
            return -3;
        }
        List<Node> way = way(tree(now.sets.get(set), now.seed), key);
        Node here = way.get(way.size() - 1);
        switch (what) {
            case 0: return way.size() > 1 ? way.get(way.size() - 2).key : -6;
            case 1: return rootOf(here.left);
            case 2: return rootOf(here.right);
            case 3: return here.keys().size();
            case 4: return (int) digest(here);
            case 5: return way.size() - 1;
            default: return priority(now.seed, key);
        }
    }

    int place(int set, int key) {
        return noSet(set) || noKey(key) ? -1 : now.sets.get(set).headSet(key).size();
    }

    int at(int set, int i) {
        return noSet(set) ? -1 : ith(now.sets.get(set), i);
    }

    private TreeSet<Integer> inJustOne(int one, int other) {
        TreeSet<Integer> all = new TreeSet<>();
        for (int key = 0; key < 50; key++) {
            if (now.sets.get(one).contains(key) != now.sets.get(other).contains(key)) {
                all.add(key);
            }
        }
        return all;
    }

    private int looks(Node one, Node other) {
        if (one == null || other == null || digest(one) == digest(other)) {
            return 1;
        }
        int top = ranksAbove(now.seed, one.key, other.key) ? one.key : other.key;
        return 1 + looks(lessThan(one, top), lessThan(other, top))
            + looks(notLessThan(one, top + 1), notLessThan(other, top + 1));
    }

    int apart(int one, int other, int what) {
        if (noSet(one) || noSet(other)) {
            return -1;
        }
        if (what < 0 || what > 2) {
            return -2;
        }
        if (what == 0) {
            return inJustOne(one, other).size();
        }
        Node ones = tree(now.sets.get(one), now.seed);
        Node others = tree(now.sets.get(other), now.seed);
        if (what == 1) {
            return looks(ones, others);
        }
        int shared = 0;
        Map<Integer, TreeSet<Integer>> mine = keysOfTrees(ones);
        Map<Integer, TreeSet<Integer>> theirs = keysOfTrees(others);
        for (int key : mine.keySet()) {
            if (mine.get(key).equals(theirs.get(key))) {
                shared++;
            }
        }
        return shared;
    }

    int differs(int one, int other, int i) {
        return noSet(one) || noSet(other) ? -1 : ith(inJustOne(one, other), i);
    }

    // ---- 4

    int above(int one, int other) {
        if (noKey(one) || noKey(other)) {
            return -1;
        }
        if (one == other) {
            return -2;
        }
        if (sights.size() == 8) {
            return -4;
        }
        sights.add(new int[] {one, other});
        return sights.size();
    }

    int forget() {
        int were = sights.size();
        sights = new ArrayList<>();
        return were;
    }

    int seeds(int i) {
        List<Integer> all = new ArrayList<>();
        for (int seed = 0; seed < 10000; seed++) {
            boolean so = true;
            for (int[] sight : sights) {
                int higher = priority(seed, sight[0]);
                int lower = priority(seed, sight[1]);
                so &= higher > lower || higher == lower && sight[0] < sight[1];
            }
            if (so) {
                all.add(seed);
            }
        }
        return i == -1 ? all.size() : i >= 0 && i < all.size() ? all.get(i) : -6;
    }

    private static BigInteger choose(int n, int k) {
        BigInteger all = BigInteger.ONE;
        for (int i = 0; i < k; i++) {
            all = all.multiply(BigInteger.valueOf(n - i)).divide(BigInteger.valueOf(i + 1));
        }
        return all;
    }

    private static int size(Node tree) {
        return tree == null ? 0 : tree.keys().size();
    }

    private static BigInteger orders(Node tree) {
        if (tree == null) {
            return BigInteger.ONE;
        }
        return choose(size(tree) - 1, size(tree.left)).multiply(orders(tree.left)).multiply(orders(tree.right));
    }

    long orders(int set) {
        if (noSet(set)) {
            return -1;
        }
        TreeSet<Integer> keys = now.sets.get(set);
        return keys.size() > 20 ? -3 : orders(tree(keys, now.seed)).longValueExact();
    }

    long shapes(int n) {
        if (n < 0 || n > 30) {
            return -2;
        }
        long[] shapes = new long[n + 1];
        shapes[0] = 1;
        for (int keys = 1; keys <= n; keys++) {
            for (int left = 0; left < keys; left++) {
                shapes[keys] += shapes[left] * shapes[keys - 1 - left];
            }
        }
        return shapes[n];
    }

    /** n times the mean is, over the roots that are as likely, 1 and the mean in the part where the key lies. */
    private static BigInteger[] mean(int n, int i, Map<Integer, BigInteger[]> known) {
        if (!known.containsKey(100 * n + i)) {
            BigInteger upper = BigInteger.ZERO;
            BigInteger lower = BigInteger.ONE;
            for (int root = 0; root < n; root++) {
                if (root != i) {
                    BigInteger[] part = i < root ? mean(root, i, known) : mean(n - 1 - root, i - 1 - root, known);
                    upper = upper.multiply(part[1]).add(part[0].add(part[1]).multiply(lower));
                    lower = lower.multiply(part[1]);
                }
            }
            lower = lower.multiply(BigInteger.valueOf(n));
            BigInteger common = upper.gcd(lower);
            known.put(100 * n + i, new BigInteger[] {upper.divide(common), lower.divide(common)});
        }
        return known.get(100 * n + i);
    }

    long deep(int n, int i, int part) {
        if (n < 1 || n > 20 || i < 0 || i >= n || part < 0 || part > 1) {
            return -1000000000000000002L;
        }
        return mean(n, i, new HashMap<>())[part].longValueExact();
    }

    private static Deed drawn(int x) {
        int y = x >> 3;
        switch (x & 7) {
            case 0: case 1: case 2: return new Deed('+', (y / 50) % 4, y % 50, 9);
            case 3: case 4: return new Deed('-', (y / 50) % 4, y % 50, 9);
            case 5: return new Deed('/', y % 4, (y / 4) % 50, (y / 200) % 4);
            case 6: return new Deed((y / 16) % 2 == 0 ? '&' : '|', y % 4, 0, (y / 4) % 4);
            default: return y % 4 == 0 ? new Deed('!', 9, 0, 9) : new Deed('=', (y / 4) % 4, 0, (y / 16) % 4);
        }
    }

    int run(int number, int m, int what) {
        if (number < 0 || number > 9999 || m < 1 || m > 99 || what < 0 || what > 2) {
            return -2;
        }
        Things t = now;
        long x = number;
        for (int i = 0; i < m; i++) {
            x = (75 * x + 74) % 65537;
            Deed d = drawn((int) x);
            t = whyNot(t, d) == 0 ? played(t, d) : t;
        }
        if (what == 0) {
            return (int) digest(tree(t.sets.get(0), t.seed));
        }
        int all = 0;
        for (TreeSet<Integer> set : t.sets) {
            all += set.size();
        }
        return what == 1 ? all : t.seed;
    }

    int image(int k) {
        if (k < 0 || k > 1) {
            return -2;
        }
        images.put(k, new Kept(new Things(now), new ArrayList<>(sights)));
        return 1;
    }

    int restore(int k) {
        if (k < 0 || k > 1) {
            return -2;
        }
        if (!images.containsKey(k)) {
            return -3;
        }
        now = new Things(images.get(k).things);
        sights = new ArrayList<>(images.get(k).sights);
        return 1;
    }

    int told(int what) {
        if (what >= 0 && what <= 2) {
            return what == 0 ? pad.length() : what == 1 ? now.seed : sights.size();
        }
        if (what >= 10 && what <= 13) {
            return now.sets.get(what - 10).size();
        }
        if (what >= 20 && what <= 23) {
            return (int) digest(tree(now.sets.get(what - 20), now.seed));
        }
        for (int set = 0; set < 4; set++) {
            int key = what - 100 * (set + 1);
            if (key >= 0 && key <= 49) {
                return now.sets.get(set).contains(key) ? 1 : 0;
            }
        }
        return -2;
    }
}
