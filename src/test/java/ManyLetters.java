/**
 * Fills an object with letters in few calls, at hosts 6 and 7: a root that
 * leads to 40 gates is walked again and again, with 42 letters a walk.
 */
final class ManyLetters {
    private static final int ROOTS = 5;
    private static final int PLACES = 8;
    private static final int GATES = ROOTS * PLACES;
    private static final int LETTERS_OF_A_WALK = 1 + GATES + 1;

    private ManyLetters() {
    }

    /** From an object with some letters made, less than 500, to one with as many as asked for made. */
    static void fill(House x, int made, int upTo) {
        int letters = made;
        int home = x.root(6, 2);
        int first = x.root(7, ROOTS);
        for (int r = 0; r < ROOTS; r++) {
            int root = x.root(7, PLACES);
            x.put(first, r, root);
            for (int place = 0; place < PLACES; place++) {
                x.deliver(x.send(x.leaf(home, 0, 0), root, place));
                letters++;
            }
        }
        x.send(first, home, 1);
        letters++;
        while (letters + LETTERS_OF_A_WALK <= upTo) {
            x.doubt(first);
            x.deliver(letters);
            letters += LETTERS_OF_A_WALK;
        }
        while (letters < upTo) {
            x.send(first, home, 1);
            letters++;
        }
    }
}
