/** States that tests ask of, each within few enough calls to leave some for questions. */
final class Scenes {
    static final int ROOT0 = 0;
    static final int ROOT1 = 1;
    static final int BOX = 2;
    static final int LEAF = 3;
    static final int FAR_BOX = 4;
    static final int FAR_LEAF = 5;
    static final int GATE = 6;
    static final int FAR_GATE = 7;
    static final int ROOT2 = 8;
    static final int FREED = 9;
    static final int NEVER_MADE = 10;

    /** What the places of BOX and of FAR_BOX hold. */
    static final int OF_LEAF = 0;
    static final int OF_FOUR_SHORTS = 1;
    static final int OF_THREE_SHORTS = 2;
    static final int OF_FOUR_INTS = 3;
    static final int OF_NOTHING = 4;
    static final int NO_PLACE = 5;

    static final int DELIVERED = 0;
    static final int NAME_FOR_A_NEW_GATE = 2;
    static final int STEP = 3;
    static final int LETTERS = 4;

    private Scenes() {
    }

    /** A new object. */
    static void nothing(House x) {
    }

    /** Of each kind one that is NEAR and one that is not, one that was freed, letters and a walk under way. */
    static void corner(House x) {
        x.root(0, 4);
        x.root(1, 4);
        x.box(ROOT0, 0, 5);
        x.leaf(BOX, OF_LEAF, 7);
        fillRows(x, BOX);
        x.box(ROOT0, 1, 5);
        x.leaf(FAR_BOX, OF_LEAF, 9);
        fillRows(x, FAR_BOX);
        x.send(BOX, ROOT1, 0);
        x.deliver(DELIVERED);
        x.send(LEAF, ROOT1, 1);
        x.deliver(1);
        x.clear(ROOT0, 1);
        x.clear(ROOT1, 1);
        x.root(2, 3);
        x.leaf(ROOT2, 0, 1);
        x.clear(ROOT2, 0);
        x.clean(2);
        x.send(LEAF, ROOT2, 1);
        x.doubt(BOX);
    }

    private static void fillRows(House x, int box) {
        x.row(box, OF_FOUR_SHORTS, 1, 4);
        x.row(box, OF_THREE_SHORTS, 1, 3);
        x.row(box, OF_FOUR_INTS, 2, 4);
        for (int i = 0; i < 3; i++) {
            x.set(box, OF_FOUR_SHORTS, i, 10 + i);
            x.set(box, OF_THREE_SHORTS, i, 20 + i);
            x.set(box, OF_FOUR_INTS, i, 30 + i);
        }
    }

    /** The corner with all 300 THINGS made. */
    static void allThings(House x) {
        corner(x);
        for (int n = NEVER_MADE; n < 300; n++) x.leaf(ROOT0, 3, n);
    }

    /** The corner with all 600 LETTERS made. */
    static void allLetters(House x) {
        corner(x);
        ManyLetters.fill(x, LETTERS, 600);
    }

    /** The corner with GATE at a WEIGHT of 1 and all 16 names that may WAIT for it. */
    static void allWaiting(House x) {
        weightOne(x);
        for (int i = 0; i < 16; i++) x.send(GATE, ROOT2, 2);
    }

    /** The corner with all 20 WALKS begun. */
    static void allWalks(House x) {
        corner(x);
        for (int w = 1; w < 20; w++) x.doubt(BOX);
    }

    /** ROOT0 to ROOT2 as things 0 to 2; box 3 of host 0 with gate 6 for box 4 of host 1, that has gate 5 for box 3; no ROOT holds them. */
    static void ring(House x) {
        heldRing(x);
        x.clear(0, 0);
        x.clear(1, 0);
    }

    /** The ring with both boxes in place 0 of their ROOTS. */
    static void heldRing(House x) {
        for (int host = 0; host < 3; host++) x.root(host, 8);
        x.box(0, 0, 4);
        x.box(1, 0, 4);
        x.send(3, 1, 1);
        x.deliver(0);
        x.put(4, 0, 5);
        x.clear(1, 1);
        x.send(4, 0, 1);
        x.deliver(1);
        x.put(3, 0, 6);
        x.clear(0, 1);
    }

    /** The held ring with the first box BROKEN, after letters 2 to 7. */
    static void brokenRing(House x) {
        ring(x);
        x.doubt(3);
        for (int l = 2; l <= 7; l++) x.deliver(l);
    }

    /** The corner with GATE at a WEIGHT of 1, after letters 4 to 9. */
    static void weightOne(House x) {
        corner(x);
        for (int i = 0; i < 6; i++) x.send(GATE, ROOT2, 2);
    }

    /** Letter 10 is a MORE of GATE. */
    static void withMore(House x) {
        weightOne(x);
        x.send(GATE, ROOT2, 2);
    }

    /** Letter 11 is the GIVE that follows it. */
    static void withGive(House x) {
        withMore(x);
        x.deliver(10);
    }

    /** The broken ring with letter 8, a HOME for box 4. */
    static void withHome(House x) {
        brokenRing(x);
        x.clean(0);
    }

    /** The ring with letter 2, a STEP for box 3, that leads to one gate. */
    static void stepWithAGate(House x) {
        ring(x);
        x.doubt(3);
    }

    /** Letter 3 is a STEP for box 4, letter 4 a BACK that tells 1. */
    static void withBack(House x) {
        stepWithAGate(x);
        x.deliver(2);
    }

    /** Letter 5 is a STEP for box 3, that was PASSED. */
    static void stepForAPassedOne(House x) {
        withBack(x);
        x.deliver(3);
    }

    /** Letter 10 is a STEP for box 3, that is freed. */
    static void stepForAFreedOne(House x) {
        withHome(x);
        x.doubt(4);
        x.deliver(9);
    }

    /** The ring with a gate for leaf 7 in box 4, and a WALK that ended with letters 7, a STEP, and 8, a BACK, under way. */
    static void endedWalk(House x) {
        heldRing(x);
        x.leaf(0, 3, 1);
        x.send(7, 1, 2);
        x.deliver(2);
        x.put(4, 1, 8);
        x.clear(1, 2);
        x.clear(0, 0);
        x.clear(1, 0);
        x.doubt(3);
        for (int l : new int[] {3, 5, 4, 6, 9}) x.deliver(l);
    }

    /** The corner with letter 4, a NAME with BOX and 32 to place 2 of ROOT0. */
    static void withHomeward(House x) {
        corner(x);
        x.send(GATE, ROOT0, 2);
    }
}
