import java.nio.file.Files;
import java.nio.file.Path;
import java.util.List;

/** The program keeps to LANGUAGE.md as far as Rules can see it, and Rules sees what it is there for. */
public final class RulesTest {
    private static final Tally TALLY = new Tally("RulesTest");
    private static final int KEYS = 50;
    private static final int SEEDS = 10000;
    private static final int LONGEST_WAY = 19;

    /** What would break a rule, written as members of the class. */
    private static final Object[][] BROKEN = {
        {1, "public static final class Seen {}"},
        {2, "private final class Inner {}"},
        {2, "private interface One { int of(int x); } private int f(One o) { return o.of(1); } private int g() { return f(x -> x); }"},
        {2, "private interface One { int of(int x); } private int f(One o) { return o.of(1); } private int g() { return f(Math::abs); }"},
        {2, "private int f() { class Local {} return 1; }"},
        {3, "private final int[][][] rows = null;"},
        {3, "private final String[] texts = null;"},
        {3, "private final Object thing = null;"},
        {3, "private Long f() { return null; }"},
        {3, "private final java.util.ArrayList<String> texts = null;"},
        {4, "private int f(int x) { return Math.addExact(x, 1); }"},
        {4, "private long f() { return System.nanoTime(); }"},
        {4, "private double f(double x) { return Math.sqrt(x); }"},
        {4, "private int f(String x) { return x.hashCode(); }"},
        {4, "private void f() { System.out.println(); }"},
        {5, "private static int count;"},
        {5, "private static final int[] ROW = new int[3];"},
        {5, "private static final Object LOCK = null;"},
        {5, "private static final int X; static { X = 1; }"},
        {5, "private static final int[] ROW = {1, 2}; private void f() { ROW[0] = 2; }"},
        {6, "private void f() { throw null; }"},
        {6, "private int f() { try { return 1; } finally { f(); } }"},
        {6, "private void f() { synchronized (this) { } }"},
        {6, "private void f(int x) { assert x > 0; }"},
        {6, "private boolean f(String x, String y) { return x == y; }"},
        {6, "private static class One {} private One f(Object x) { return (One) x; }"},
        {8, "private int f(int x) { return x > 0 ? f(x - 1) : 0; }"},
        {8, "private static int f(int level) { return g(level); } private static int g(int level) { return level > 0 ? f(level - 1) : 0; }"},
        {9, "private void f() { while (true) { } }"},
        {9, "private void f() { for (;;) { } }"},
        {10, "private String f(String x) { return x + 1; }"},
        {10, "private String f(String x) { x += 1; return x; }"},
        {11, "private int f(int a, int b, int c, int d, int e, int g, int h, int i) { return a; }"},
        {11, "private void f() {" + "\n".repeat(60) + "}"},
        {11, "private int a, b, c, d, e, f, g, h, i, j, k, l, m, n, o, p, q, r, s, t, u;"},
        {11, "private int a() { return b(); } private int b() { return c(); } private int c() { return d(); } private int d() { return e(); }"
            + "private int e() { return f(); } private int f() { return g(); } private int g() { return h(); } private int h() { return i(); }"
            + "private int i() { return 1; }"},
        {11, "static class A {} static class B {} static class C {} static class D {} static class E {} static class F {} static class G {}"
            + "static class H {} static class I {} static class J {} static class K {} static class L {}"},
        {12, "private int[] f() { return new int[3]; }"},
        {12, "private static class One {} private One f() { return new One(); }"},
    };

    /** What the rules allow, and this program does or could do. */
    private static final String[] KEPT = {
        "private static final int[] ROW = {1, 2, 3}; private static final String TEXT = \"abc\";",
        "private final int[][] rows = new int[2][3]; private final One[] ones = new One[3]; private static final class One {}",
        "private static int f(int x, int level) { return x == 0 || level > 40 ? 0 : f(x - 1, level + 1); }",
        "private int f(int a, int b) { return Math.max(a, b) + Integer.bitCount(a) + (int) Long.compare(a, b); }",
        "private static final class Own { Own() { f(); } private void f() { } } private final Own own = new Own();",
        "private final int[] row = new int[3]; private void f() { for (int i = 0; i < 3; i++) { row[i] = i; } }",
    };

    public static void main(String[] args) throws Exception {
        programKeeps(Files.readString(Path.of(System.getProperty("keyedtree.source", "src/main/java/KeyedTree.java"))));
        breachesAreSeen();
        wayDownIsShort();
        TALLY.end();
    }

    private static void programKeeps(String text) throws Exception {
        for (String breach : Rules.breachesOf(text)) {
            TALLY.must(breach, false);
        }
        TALLY.must("no text but ASCII", text.chars().allMatch(sign -> sign < 128));
    }

    private static void breachesAreSeen() throws Exception {
        for (Object[] row : BROKEN) {
            List<String> found = Rules.breachesOf("public final class KeyedTree {" + row[1] + "}");
            TALLY.must("rule " + row[0] + " is broken by " + row[1] + " " + found,
                found.stream().anyMatch(one -> one.startsWith("rule " + row[0] + ":")) && found.stream().noneMatch(one -> one.startsWith("comp")));
        }
        for (String members : KEPT) {
            List<String> found = Rules.breachesOf("public final class KeyedTree {" + members + "}");
            TALLY.must(members + " is kept: " + found, found.isEmpty());
        }
        TALLY.must("a package line", Rules.breachesOf("package a; public final class KeyedTree {}").toString().contains("rule 1:"));
        TALLY.must("two classes", Rules.breachesOf("public final class KeyedTree {} class Two {}").toString().contains("rule 1:"));
        TALLY.must("an import", Rules.breachesOf("import java.util.Random; public final class KeyedTree {}").toString().contains("rule 4:"));
    }

    // ---- 8: the one recursion, the looks at two trees, goes as deep as the longest way that any keys make by any seed

    private static boolean ranksAbove(int[] priorities, int one, int other) {
        return priorities[one] != priorities[other] ? priorities[one] > priorities[other] : one < other;
    }

    private static void wayDownIsShort() {
        int longest = 0;
        int[] priorities = new int[KEYS];
        for (int seed = 0; seed < SEEDS; seed++) {
            for (int key = 0; key < KEYS; key++) {
                int x = (seed + 131 * key) % 10007;
                priorities[key] = x * x % 10007;
            }
            longest = Math.max(longest, longestWay(priorities));
        }
        TALLY.due("keys of the longest way down", longest, LONGEST_WAY);
    }

    /**
     * A way, told from its lowest key up: each next key ranks above the last one and lies outside of all so far.
     * ways[lo][hi][end]: of how many keys, if they lie from lo to hi and the last is the lesser (0) or greater end (1).
     */
    private static int longestWay(int[] priorities) {
        int[][][] ways = new int[KEYS][KEYS][2];
        int longest = 0;
        for (int wide = 0; wide < KEYS; wide++) {
            for (int lo = 0; lo + wide < KEYS; lo++) {
                int hi = lo + wide;
                for (int end = 0; end < 2; end++) {
                    int way = wide == 0 ? 1 : ways[lo][hi][end];
                    longest = Math.max(longest, way);
                    if (way > 0) {
                        widen(priorities, ways, lo, hi, end == 0 ? lo : hi, way);
                    }
                }
            }
        }
        return longest;
    }

    private static void widen(int[] priorities, int[][][] ways, int lo, int hi, int last, int way) {
        for (int key = 0; key < lo; key++) {
            if (ranksAbove(priorities, key, last)) {
                ways[key][hi][0] = Math.max(ways[key][hi][0], way + 1);
            }
        }
        for (int key = hi + 1; key < KEYS; key++) {
            if (ranksAbove(priorities, key, last)) {
                ways[lo][key][1] = Math.max(ways[lo][key][1], way + 1);
            }
        }
    }
}
