/** Fills an object with letters in few enough calls: some 210, with 13 walks over 40 gates, at hosts 6 and 7. */
final class ManyLetters {
    private static final int BOXES = 5;
    private static final int PLACES = 8;
    private static final int GATES = BOXES * PLACES;
    private static final int LETTERS_OF_A_WALK = 1 + GATES + 1;

    private ManyLetters() {
    }

    /** From an object with some letters made to one with all of those asked for made. */
    static void fill(FarHold x, int made, int upTo) {
        int letters = made;
        int near = x.root(6, 2);
        int far = x.root(7, 2);
        int first = x.box(far, 1, BOXES);
        int box = -1;
        for (int i = 0; i < GATES; i++) {
            if (i % PLACES == 0) box = x.box(first, i / PLACES, PLACES);
            int leaf = x.leaf(near, 0, i);
            x.deliver(x.send(leaf, far, 0));
            letters++;
            x.put(box, i % PLACES, x.gate(7, leaf));
        }
        x.send(first, near, 1);
        letters++;
        while (letters + LETTERS_OF_A_WALK <= upTo) {
            x.doubt(first);
            x.deliver(letters);
            letters += LETTERS_OF_A_WALK;
        }
        while (letters < upTo) {
            x.send(first, near, 1);
            letters++;
        }
    }
}
