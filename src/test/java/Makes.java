/** Objects in the states that the edges need; none takes more than 200 of its 512 calls. */
final class Makes {
    /** Acts that can all be, in 60 signs, if A has 40 keys, 0 and 1 among them. */
    static final String SIXTY = "A-00A+00".repeat(7) + "A-01";

    private Makes() {
    }

    static KeyedTree empty() {
        return new KeyedTree();
    }

    /** Some keys, an image, two sights, acts that can be. */
    static KeyedTree some() {
        KeyedTree tree = Talk.with(0, 7);
        tree.seed(3);
        tree.image(0);
        tree.put(0, 7, false);
        Talk.put(Talk.put(Talk.put(tree, 0, 2, 5, 30), 1, 5, 49), 3, 2, 5, 30);
        tree.seed(77);
        tree.above(5, 2);
        tree.above(2, 1);
        return Talk.pad(tree, "A+01C=BB-05!");
    }

    /** As some, with signs that have a fault behind an act that can not be. */
    static KeyedTree faulty() {
        return Talk.pad(some(), "A-01E");
    }

    /** As some, with an act that can not be. */
    static KeyedTree stuck() {
        return Talk.pad(some(), "A+01A-06!");
    }

    /** Nothing more goes in: 40 keys a set, the greatest seed, eight sights, both images, sixty signs. */
    static KeyedTree full() {
        KeyedTree tree = Talk.fill(Talk.fill(new KeyedTree(), 0, 0, 39), 1, 10, 49);
        Talk.pad(tree, "C=AD=B");
        tree.done();
        int[] falling = {20, 12, 9, 5, 2, 15, 43, 40, 13};
        for (int i = 0; i < 8; i++) {
            tree.above(falling[i], falling[i + 1]);
        }
        tree.image(0);
        tree.seed(9999);
        tree.image(1);
        return Talk.pad(tree, SIXTY);
    }

    static Sentences.Make[] all() {
        return new Sentences.Make[] {Makes::empty, Makes::some, Makes::faulty, Makes::stuck, Makes::full};
    }
}
