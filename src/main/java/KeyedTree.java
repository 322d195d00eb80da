/**
 * Four sets of keys whose trees follow from the keys and the seed alone.
 *
 * A set is held as the bits of one long, bit k for key k: since a set has just one tree,
 * the tree need not be kept and is grown again wherever something is asked of it.
 * All rows are made with the object; no call makes any.
 */
public final class KeyedTree {
    public static final int UNKNOWN = -1, OUTSIDE = -2, STATE = -3, FULL = -4, NO = -5, NONE = -6;
    public static final long GONE = -1000000000000000000L;

    private static final int SETS = 4;
    private static final int KEYS = 50;
    private static final int MOST_KEYS = 40;
    private static final int SEEDS = 10000;
    private static final int IMAGES = 2;
    private static final int MOST_ORDERED = 20;
    private static final int MOST_SHAPED = 30;
    private static final int MOST_DEEP = 20;
    private static final int MOST_DRAWS = 99;
    /** A multiple of 1 to 20, so that every mean depth is a whole number of parts of it. */
    private static final long ALL_PARTS = 232792560L;

    private final World now = new World();
    private final World drawn = new World();
    private final Pad pad = new Pad();
    private final Sights sights = new Sights();
    private final Image[] images = new Image[IMAGES];
    private final Trial trial = new Trial();
    /** The trial's own are free again when it has ended, so they serve for all else too. */
    private final Act act = trial.act;
    private final Tree oneTree = trial.treeBefore;
    private final Tree otherTree = trial.treeAfter;

    public KeyedTree() {
        for (int k = 0; k < IMAGES; k++) {
            images[k] = new Image();
        }
    }

    // ---- 1 seeds, keys

    public int seed(int v) {
        if (!isSeed(v)) {
            return OUTSIDE;
        }
        int was = now.seed;
        now.seed = v;
        return was;
    }

    public int put(int set, int key, boolean is) {
        if (!isSet(set) || !isKey(key)) {
            return UNKNOWN;
        }
        if (is && !isIn(now.keys[set], key) && count(now.keys[set]) >= MOST_KEYS) {
            return FULL;
        }
        now.keys[set] = is ? now.keys[set] | bit(key) : now.keys[set] & ~bit(key);
        return count(now.keys[set]);
    }

    public int say(int sign) {
        if (sign < Pad.FIRST_SIGN || sign > Pad.LAST_SIGN) {
            return OUTSIDE;
        }
        return pad.write(sign) ? pad.count : FULL;
    }

    public int wipe() {
        int were = pad.count;
        pad.clear();
        return were;
    }

    public int fault() {
        return pad.firstFault();
    }

    // ---- 2 acts

    public int judge(int what) {
        if (what < 0 || what > 2) {
            return OUTSIDE;
        }
        int refusal = tryActs();
        if (refusal == NO || what == 2) {
            return refusal != 0 ? refusal : trial.work;
        }
        if (refusal == 0) {
            return NONE;
        }
        return what == 0 ? trial.acts : trial.whyNot;
    }

    public int behind(int set, int what) {
        if (!isSet(set)) {
            return UNKNOWN;
        }
        if (what < 0 || what > 3) {
            return OUTSIDE;
        }
        int refusal = tryActs();
        if (refusal != 0) {
            return refusal;
        }
        oneTree.grow(trial.after.keys[set], trial.after.seed);
        switch (what) {
            case 0: return oneTree.sizeBelow(oneTree.root);
            case 1: return oneTree.digestBelow(oneTree.root);
            case 2: return oneTree.root;
            default: return oneTree.heightBelow(oneTree.root);
        }
    }

    public int alike(int what) {
        if (what < 0 || what > 2) {
            return OUTSIDE;
        }
        int refusal = tryActs();
        if (refusal != 0) {
            return refusal;
        }
        switch (what) {
            case 0: return trial.alikeAct;
            case 1: return trial.alikePair;
            default: return trial.after.seed;
        }
    }

    public int done() {
        int refusal = tryActs();
        if (refusal != 0) {
            return refusal;
        }
        now.copy(trial.after);
        pad.clear();
        return trial.acts;
    }

    /** Plays what the pad tells, aside: NO, STATE, or 0 if all of it can be. */
    private int tryActs() {
        if (pad.firstFault() != NONE) {
            return NO;
        }
        trial.play(pad, now);
        return trial.whyNot != 0 ? STATE : 0;
    }

    // ---- 3 nodes, places, what is apart

    public int node(int set, int key, int what) {
        if (!isSet(set) || !isKey(key)) {
            return UNKNOWN;
        }
        if (what < 0 || what > 6) {
            return OUTSIDE;
        }
        if (!isIn(now.keys[set], key)) {
            return STATE;
        }
        oneTree.grow(now.keys[set], now.seed);
        switch (what) {
            case 0: return oneTree.parent[key];
            case 1: return oneTree.left[key];
            case 2: return oneTree.right[key];
            case 3: return oneTree.sizeBelow(key);
            case 4: return oneTree.digestBelow(key);
            case 5: return oneTree.depth(key);
            default: return priority(now.seed, key);
        }
    }

    public int place(int set, int key) {
        if (!isSet(set) || !isKey(key)) {
            return UNKNOWN;
        }
        return count(now.keys[set] & less(key));
    }

    public int at(int set, int i) {
        return isSet(set) ? pick(now.keys[set], i) : UNKNOWN;
    }

    public int apart(int one, int other, int what) {
        if (!isSet(one) || !isSet(other)) {
            return UNKNOWN;
        }
        if (what < 0 || what > 2) {
            return OUTSIDE;
        }
        long ones = now.keys[one];
        long others = now.keys[other];
        switch (what) {
            case 0: return count(ones ^ others);
            case 1: return looks(oneTree, otherTree, ones, others, now.seed, 0);
            default: return shared(ones, others);
        }
    }

    public int differs(int one, int other, int i) {
        if (!isSet(one) || !isSet(other)) {
            return UNKNOWN;
        }
        return pick(now.keys[one] ^ now.keys[other], i);
    }

    /** Digests are compared, never keys: two trees that differ may have one digest. */
    private static int looks(Tree oneTree, Tree otherTree, long ones, long others, int seed, int level) {
        // Each level has a key less to part by, so none goes deeper than there are keys; by no seed does one pass 18.
        if (ones == 0 || others == 0 || level > KEYS) {
            return 1;
        }
        oneTree.grow(ones, seed);
        otherTree.grow(others, seed);
        int one = oneTree.root;
        int other = otherTree.root;
        if (oneTree.digestBelow(one) == otherTree.digestBelow(other)) {
            return 1;
        }
        int top = ranksAbove(seed, other, one) ? other : one;
        long lesser = less(top);
        long greater = ~(lesser | bit(top));
        return 1 + looks(oneTree, otherTree, ones & lesser, others & lesser, seed, level + 1)
            + looks(oneTree, otherTree, ones & greater, others & greater, seed, level + 1);
    }

    private int shared(long ones, long others) {
        oneTree.grow(ones, now.seed);
        otherTree.grow(others, now.seed);
        int shared = 0;
        for (int key = 0; key < KEYS; key++) {
            if (isIn(ones & others, key) && oneTree.span[key] == otherTree.span[key]) {
                shared++;
            }
        }
        return shared;
    }

    // ---- 4 seeds that can be, orders, shapes

    public int above(int one, int other) {
        if (!isKey(one) || !isKey(other)) {
            return UNKNOWN;
        }
        if (one == other) {
            return OUTSIDE;
        }
        return sights.add(one, other) ? sights.count : FULL;
    }

    public int forget() {
        int were = sights.count;
        sights.clear();
        return were;
    }

    public int seeds(int i) {
        return i == -1 ? sights.countSeeds() : sights.pickSeed(i);
    }

    public long orders(int set) {
        if (!isSet(set)) {
            return UNKNOWN;
        }
        int size = count(now.keys[set]);
        if (size > MOST_ORDERED) {
            return STATE;
        }
        long orders = 1;
        for (int factor = 2; factor <= size; factor++) {
            orders *= factor;
        }
        oneTree.grow(now.keys[set], now.seed);
        // A root comes first in one of as many orders of its tree as the tree has keys.
        for (int key = 0; key < KEYS; key++) {
            int below = count(oneTree.span[key]);
            if (below > 1) {
                orders /= below;
            }
        }
        return orders;
    }

    public long shapes(int n) {
        if (n < 0 || n > MOST_SHAPED) {
            return OUTSIDE;
        }
        long shapes = 1;
        for (int keys = 1; keys <= n; keys++) {
            shapes = shapes * (4 * keys - 2) / (keys + 1);
        }
        return shapes;
    }

    public long deep(int n, int i, int part) {
        if (n < 1 || n > MOST_DEEP || i < 0 || i >= n || part < 0 || part > 1) {
            return GONE + OUTSIDE;
        }
        long upper = 0;
        for (int other = 0; other < n; other++) {
            // Another key is above this one if it ranks highest of all from the one to the other.
            if (other != i) {
                upper += ALL_PARTS / (Math.abs(other - i) + 1);
            }
        }
        long common = greatestDivisor(ALL_PARTS, upper);
        return (part == 0 ? upper : ALL_PARTS) / Math.max(1, common);
    }

    public int run(int number, int m, int what) {
        if (!isSeed(number) || m < 1 || m > MOST_DRAWS || what < 0 || what > 2) {
            return OUTSIDE;
        }
        drawn.copy(now);
        int x = number;
        for (int i = 0; i < m; i++) {
            x = (75 * x + 74) % 65537;
            act.draw(x);
            if (drawn.whyNot(act) == 0) {
                drawn.play(act);
            }
        }
        switch (what) {
            case 0: return digest(drawn.keys[0], drawn.seed);
            case 1: return drawn.countAll();
            default: return drawn.seed;
        }
    }

    public int image(int k) {
        if (k < 0 || k >= IMAGES) {
            return OUTSIDE;
        }
        images[k].kept = true;
        images[k].world.copy(now);
        images[k].sights.copy(sights);
        return 1;
    }

    public int restore(int k) {
        if (k < 0 || k >= IMAGES) {
            return OUTSIDE;
        }
        if (!images[k].kept) {
            return STATE;
        }
        now.copy(images[k].world);
        sights.copy(images[k].sights);
        return 1;
    }

    public int told(int what) {
        switch (what) {
            case 0: return pad.count;
            case 1: return now.seed;
            case 2: return sights.count;
            default: return toldOfSets(what);
        }
    }

    private int toldOfSets(int what) {
        if (isSet(what - 10)) {
            return count(now.keys[what - 10]);
        }
        if (isSet(what - 20)) {
            return digest(now.keys[what - 20], now.seed);
        }
        int set = what / 100 - 1;
        int key = what % 100;
        if (!isSet(set) || !isKey(key)) {
            return OUTSIDE;
        }
        return isIn(now.keys[set], key) ? 1 : 0;
    }

    private int digest(long keys, int seed) {
        oneTree.grow(keys, seed);
        return oneTree.digestBelow(oneTree.root);
    }

    // ---- what all parts use

    private static boolean isSet(int set) {
        return set >= 0 && set < SETS;
    }

    private static boolean isKey(int key) {
        return key >= 0 && key < KEYS;
    }

    private static boolean isSeed(int seed) {
        return seed >= 0 && seed < SEEDS;
    }

    private static long bit(int key) {
        return 1L << key;
    }

    private static boolean isIn(long keys, int key) {
        return (keys & bit(key)) != 0;
    }

    private static int count(long keys) {
        return Long.bitCount(keys);
    }

    /** All keys that are less than this one. */
    private static long less(int key) {
        return bit(key) - 1;
    }

    /** The i-th of these keys, rising; NONE. */
    private static int pick(long keys, int i) {
        int ahead = 0;
        for (int key = 0; key < KEYS; key++) {
            if (isIn(keys, key)) {
                if (ahead == i) {
                    return key;
                }
                ahead++;
            }
        }
        return NONE;
    }

    private static int priority(int seed, int key) {
        int x = (seed + 131 * key) % 10007;
        return x * x % 10007;
    }

    private static boolean ranksAbove(int seed, int one, int other) {
        int ones = priority(seed, one);
        int others = priority(seed, other);
        return ones != others ? ones > others : one < other;
    }

    private static long greatestDivisor(long one, long other) {
        // Numbers of 63 bits need fewer than a hundred steps.
        for (int step = 0; step < 100 && other != 0; step++) {
            long rest = one % other;
            one = other;
            other = rest;
        }
        return one;
    }

    /** The seed and the keys of the sets. */
    private static final class World {
        final long[] keys = new long[SETS];
        int seed;

        void copy(World from) {
            System.arraycopy(from.keys, 0, keys, 0, SETS);
            seed = from.seed;
        }

        int countAll() {
            int all = 0;
            for (int set = 0; set < SETS; set++) {
                all += count(keys[set]);
            }
            return all;
        }

        /** The least reason for which the act can not be; 0 if it can. */
        int whyNot(Act act) {
            if (act.kind == Act.SEED) {
                return seed >= SEEDS - 1 ? 6 : 0;
            }
            if (act.kind == Act.PUT || act.kind == Act.TAKE) {
                return whyNotOne(act.kind == Act.PUT, keys[act.set], act.key);
            }
            return act.set == act.other ? 1 : whyNotTwo(act.kind, keys[act.set], keys[act.other]);
        }

        private static int whyNotOne(boolean put, long own, int key) {
            if (isIn(own, key) == put) {
                return 2;
            }
            return put && count(own) >= MOST_KEYS ? 3 : 0;
        }

        private static int whyNotTwo(int kind, long own, long others) {
            if ((kind == Act.JOIN || kind == Act.ADD) && count(own | others) > MOST_KEYS) {
                return 3;
            }
            if (kind == Act.PART && others != 0) {
                return 4;
            }
            // As numbers: own keys reach the other's least bit if one is as great or greater.
            if (kind == Act.JOIN && others != 0 && own >= (others & -others)) {
                return 5;
            }
            return 0;
        }

        /** Does an act that can be. */
        void play(Act act) {
            long own = keys[act.set];
            long others = keys[act.other];
            switch (act.kind) {
                case Act.PUT:
                    keys[act.set] = own | bit(act.key);
                    break;
                case Act.TAKE:
                    keys[act.set] = own & ~bit(act.key);
                    break;
                case Act.PART:
                    keys[act.set] = own & less(act.key);
                    keys[act.other] = own & ~less(act.key);
                    break;
                case Act.JOIN:
                    keys[act.set] = own | others;
                    keys[act.other] = 0;
                    break;
                case Act.COPY:
                    keys[act.set] = others;
                    break;
                case Act.ADD:
                    keys[act.set] = own | others;
                    break;
                case Act.DROP:
                    keys[act.set] = own & ~others;
                    break;
                default:
                    seed++;
            }
        }
    }

    /** One small act; one object serves for all of them in turn. */
    private static final class Act {
        static final int PUT = '+', TAKE = '-', PART = '/', JOIN = '&';
        static final int COPY = '=', ADD = '|', DROP = '~', SEED = '!';

        int kind;
        int set;
        int key;
        int other;

        void become(int kind, int set, int key, int other) {
            this.kind = kind;
            this.set = set;
            this.key = key;
            this.other = other;
        }

        /** The act of a run's draw x. */
        void draw(int x) {
            int y = x / 8;
            switch (x % 8) {
                case 0:
                case 1:
                case 2:
                    become(PUT, y / 50 % SETS, y % 50, 0);
                    break;
                case 3:
                case 4:
                    become(TAKE, y / 50 % SETS, y % 50, 0);
                    break;
                case 5:
                    become(PART, y % SETS, y / 4 % 50, y / 200 % SETS);
                    break;
                case 6:
                    become(y / 16 % 2 == 0 ? JOIN : ADD, y % SETS, 0, y / 4 % SETS);
                    break;
                default:
                    become(y % 4 == 0 ? SEED : COPY, y / 4 % SETS, 0, y / 16 % SETS);
            }
        }
    }

    /** The signs that were said, and the language that they are held against. */
    private static final class Pad {
        static final int FIRST_SIGN = 33, LAST_SIGN = 126;

        private static final int MOST_SIGNS = 60;
        /** What must come next. */
        private static final int ACT = 0, KIND = 1, TENS = 2, ONES = 3, PART_TENS = 4, PART_ONES = 5, OTHER = 6;

        final int[] signs = new int[MOST_SIGNS];
        int count;

        boolean write(int sign) {
            if (count >= MOST_SIGNS) {
                return false;
            }
            signs[count] = sign;
            count++;
            return true;
        }

        void clear() {
            count = 0;
        }

        int firstFault() {
            int next = ACT;
            for (int i = 0; i < count; i++) {
                next = follow(next, signs[i]);
                if (next == NONE) {
                    return i;
                }
            }
            return next == ACT ? NONE : count;
        }

        /** What must come behind a sign, or NONE if the sign can not stand there. */
        private static int follow(int next, int sign) {
            switch (next) {
                case ACT:
                    return sign == Act.SEED ? ACT : isLetter(sign) ? KIND : NONE;
                case KIND:
                    return followKind(sign);
                case TENS:
                    return isTens(sign) ? ONES : NONE;
                case ONES:
                    return isFigure(sign) ? ACT : NONE;
                case PART_TENS:
                    return isTens(sign) ? PART_ONES : NONE;
                case PART_ONES:
                    return isFigure(sign) ? OTHER : NONE;
                default:
                    return isLetter(sign) ? ACT : NONE;
            }
        }

        private static int followKind(int sign) {
            switch (sign) {
                case Act.PUT:
                case Act.TAKE:
                    return TENS;
                case Act.PART:
                    return PART_TENS;
                case Act.JOIN:
                case Act.COPY:
                case Act.ADD:
                case Act.DROP:
                    return OTHER;
                default:
                    return NONE;
            }
        }

        private static boolean isLetter(int sign) {
            return isSet(sign - 'A');
        }

        private static boolean isTens(int sign) {
            return sign >= '0' && sign <= '4';
        }

        private static boolean isFigure(int sign) {
            return sign >= '0' && sign <= '9';
        }

        /** Reads the act that begins at this place of a pad without fault: of how many signs it is. */
        int read(int from, Act act) {
            if (sign(from) == Act.SEED) {
                act.become(Act.SEED, 0, 0, 0);
                return 1;
            }
            int set = setAt(from);
            int kind = sign(from + 1);
            if (followKind(kind) == OTHER) {
                act.become(kind, set, 0, setAt(from + 2));
                return 3;
            }
            int key = 10 * (sign(from + 2) - '0') + sign(from + 3) - '0';
            if (kind == Act.PART) {
                act.become(kind, set, key, setAt(from + 4));
                return 5;
            }
            act.become(kind, set, key, 0);
            return 4;
        }

        /** Looked at here too, though a pad without fault has a letter there: a set is an index later on. */
        private int setAt(int i) {
            int set = sign(i) - 'A';
            return isSet(set) ? set : 0;
        }

        private int sign(int i) {
            return i >= 0 && i < count ? signs[i] : 0;
        }
    }

    /** The acts of a pad played one by one, aside, as far as they can be. */
    private static final class Trial {
        final Act act = new Act();
        final Tree treeBefore = new Tree();
        final Tree treeAfter = new Tree();
        final World after = new World();
        private final World before = new World();

        /** How many acts were played: the next one, if whyNot tells a reason, can not be. */
        int acts;
        int whyNot;
        int work;
        int alikeAct;
        int alikePair;

        void play(Pad pad, World from) {
            after.copy(from);
            acts = 0;
            work = 0;
            whyNot = 0;
            alikeAct = NONE;
            alikePair = NONE;
            int signs = 0;
            for (int i = 0; i < pad.count; i += Math.max(1, signs)) {
                signs = pad.read(i, act);
                whyNot = after.whyNot(act);
                if (whyNot != 0) {
                    return;
                }
                before.copy(after);
                after.play(act);
                addWork();
                seekAlike();
                acts++;
            }
        }

        /** A key that was not in had an empty span, which no key has that is in. */
        private void addWork() {
            for (int set = 0; set < SETS; set++) {
                if (before.keys[set] == after.keys[set] && before.seed == after.seed) {
                    continue;
                }
                treeBefore.grow(before.keys[set], before.seed);
                treeAfter.grow(after.keys[set], after.seed);
                for (int key = 0; key < KEYS; key++) {
                    if (isIn(after.keys[set], key) && treeBefore.span[key] != treeAfter.span[key]) {
                        work++;
                    }
                }
            }
        }

        private void seekAlike() {
            for (int one = 0; one < SETS; one++) {
                for (int other = one + 1; other < SETS; other++) {
                    if (alikeAct == NONE && sameKeys(after, one, other) && !sameKeys(before, one, other)) {
                        alikeAct = acts;
                        alikePair = 10 * one + other;
                    }
                }
            }
        }

        private static boolean sameKeys(World world, int one, int other) {
            return world.keys[one] != 0 && world.keys[one] == world.keys[other];
        }
    }

    /** The tree of some keys by a seed; its rows, one element a key, are used again by each tree. */
    private static final class Tree {
        final int[] left = new int[KEYS];
        final int[] right = new int[KEYS];
        final int[] parent = new int[KEYS];
        /** The keys of the tree that a key is the root of; none if the key is not in. */
        final long[] span = new long[KEYS];
        int root;

        private final int[] digest = new int[KEYS];
        private final int[] height = new int[KEYS];
        private final int[] priority = new int[KEYS];
        private int pricedBy = NONE;
        /** The way from the root down to the right: the keys whose trees may still grow. */
        private final int[] open = new int[KEYS];

        /** Keys come rising, so each goes to the right until one that ranks above takes it to its left. */
        void grow(long keys, int seed) {
            price(seed);
            int opened = 0;
            for (int key = 0; key < KEYS; key++) {
                span[key] = 0;
                if (!isIn(keys, key)) {
                    continue;
                }
                left[key] = NONE;
                right[key] = NONE;
                // Of as great a priority the lesser key ranks above, and that is the open one.
                while (opened > 0 && priority[open[opened - 1]] < priority[key]) {
                    opened--;
                    left[key] = open[opened];
                    finish(left[key]);
                }
                if (opened > 0) {
                    right[open[opened - 1]] = key;
                }
                open[opened] = key;
                opened++;
            }
            root = NONE;
            while (opened > 0) {
                opened--;
                root = open[opened];
                finish(root);
            }
            if (root >= 0) {
                parent[root] = NONE;
            }
        }

        private void price(int seed) {
            if (seed == pricedBy) {
                return;
            }
            for (int key = 0; key < KEYS; key++) {
                priority[key] = priority(seed, key);
            }
            pricedBy = seed;
        }

        private void finish(int key) {
            int l = left[key];
            int r = right[key];
            span[key] = bit(key) | spanBelow(l) | spanBelow(r);
            height[key] = 1 + Math.max(heightBelow(l), heightBelow(r));
            digest[key] = 1 + (31 * digestBelow(l) + 57 * digestBelow(r) + 7919 * (key + 1)) % 999983;
            if (l >= 0) {
                parent[l] = key;
            }
            if (r >= 0) {
                parent[r] = key;
            }
        }

        private long spanBelow(int top) {
            return top >= 0 ? span[top] : 0;
        }

        int sizeBelow(int top) {
            return count(spanBelow(top));
        }

        int heightBelow(int top) {
            return top >= 0 ? height[top] : 0;
        }

        int digestBelow(int top) {
            return top >= 0 ? digest[top] : 0;
        }

        /** How many other keys have this one in their trees. */
        int depth(int key) {
            int above = 0;
            for (int top = 0; top < KEYS; top++) {
                if (top != key && isIn(span[top], key)) {
                    above++;
                }
            }
            return above;
        }
    }

    /** Which key was seen to rank above which, and the seeds by which all of that is so. */
    private static final class Sights {
        private static final int MOST_SIGHTS = 8;
        private static final int WORD = 64;
        private static final int WORDS = (SEEDS + WORD - 1) / WORD;

        int count;
        /** A bit a seed, kept narrow as sights come, so that asking costs little. */
        private final long[] seeds = new long[WORDS];

        Sights() {
            fill();
        }

        private void fill() {
            for (int word = 0; word < WORDS; word++) {
                seeds[word] = -1L;
            }
            seeds[WORDS - 1] = (1L << SEEDS % WORD) - 1;
        }

        void clear() {
            count = 0;
            fill();
        }

        void copy(Sights from) {
            count = from.count;
            System.arraycopy(from.seeds, 0, seeds, 0, WORDS);
        }

        boolean add(int one, int other) {
            if (count >= MOST_SIGHTS) {
                return false;
            }
            count++;
            for (int seed = 0; seed < SEEDS; seed++) {
                if (!ranksAbove(seed, one, other)) {
                    seeds[seed / WORD] &= ~(1L << seed % WORD);
                }
            }
            return true;
        }

        int countSeeds() {
            int all = 0;
            for (int word = 0; word < WORDS; word++) {
                all += Long.bitCount(seeds[word]);
            }
            return all;
        }

        int pickSeed(int i) {
            if (i < 0) {
                return NONE;
            }
            int ahead = i;
            for (int word = 0; word < WORDS; word++) {
                int here = Long.bitCount(seeds[word]);
                if (ahead < here) {
                    return WORD * word + pickBit(seeds[word], ahead);
                }
                ahead -= here;
            }
            return NONE;
        }

        private static int pickBit(long word, int i) {
            int ahead = i;
            for (int place = 0; place < WORD; place++) {
                if ((word >>> place & 1) != 0) {
                    if (ahead == 0) {
                        return place;
                    }
                    ahead--;
                }
            }
            return 0;
        }
    }

    /** All but the pad, as it was when it was kept. */
    private static final class Image {
        boolean kept;
        final World world = new World();
        final Sights sights = new Sights();
    }
}
