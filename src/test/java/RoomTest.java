import java.lang.management.ManagementFactory;

/** All calls of a run live in one room: an object is small, and none of its calls makes another one. */
public final class RoomTest {
    private static final Tally TALLY = new Tally("RoomTest");
    private static final com.sun.management.ThreadMXBean ROOM =
        (com.sun.management.ThreadMXBean) ManagementFactory.getThreadMXBean();

    public static void main(String[] args) {
        for (int warm = 0; warm < 3; warm++) {
            calls(new KeyedTree());
        }
        long before = ROOM.getCurrentThreadAllocatedBytes();
        KeyedTree tree = new KeyedTree();
        long made = ROOM.getCurrentThreadAllocatedBytes();
        calls(tree);
        long called = ROOM.getCurrentThreadAllocatedBytes();
        TALLY.must("an object takes " + (made - before) + " bytes", made - before < 32768);
        TALLY.must("its calls take " + (called - made) + " bytes", called - made < 4096);
        TALLY.end();
    }

    private static int calls(KeyedTree tree) {
        int sum = 0;
        for (int key = 0; key < 45; key++) {
            sum += tree.put(0, key, true) + tree.put(1, key, key % 3 != 0) + tree.put(2, 49 - key, true);
        }
        for (int i = 0; i < 20; i++) {
            sum += tree.say('!') + tree.judge(2) + tree.behind(1, 1) + tree.alike(0) + tree.fault();
        }
        sum += tree.done();
        for (int i = 0; i < 8; i++) {
            sum += tree.above(i, i + 1) + tree.seeds(i) + tree.seeds(-1) + tree.run(i, 99, 0) + tree.told(20);
            sum += tree.apart(0, 1, 1) + tree.apart(0, 2, 2) + tree.node(0, i, 4) + tree.node(0, i, 5) + tree.differs(0, 1, i);
            sum += (int) (tree.orders(1) + tree.shapes(i) + tree.deep(20, i, 0)) + tree.place(0, i) + tree.at(0, i);
        }
        return sum + tree.image(0) + tree.restore(0) + tree.image(1) + tree.forget() + tree.wipe() + tree.seed(5);
    }
}
