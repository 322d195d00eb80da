/** Says texts, so that tests can write acts as one reads them. */
final class Talk {
    private Talk() {
    }

    static void say(KeyedTree tree, String text) {
        for (int i = 0; i < text.length(); i++) {
            tree.say(text.charAt(i));
        }
    }

    /** The text alone stands on the pad then. */
    static KeyedTree pad(KeyedTree tree, String text) {
        tree.wipe();
        say(tree, text);
        return tree;
    }

    static KeyedTree with(int set, int... keys) {
        return put(new KeyedTree(), set, keys);
    }

    static KeyedTree put(KeyedTree tree, int set, int... keys) {
        for (int key : keys) {
            tree.put(set, key, true);
        }
        return tree;
    }

    /** Keys first to last, both among them. */
    static KeyedTree fill(KeyedTree tree, int set, int first, int last) {
        for (int key = first; key <= last; key++) {
            tree.put(set, key, true);
        }
        return tree;
    }
}
