/**
 * Each refusal of each call, and where two fit one call, the one that the
 * order asks for. After each, all that the object tells is held against what
 * it told ahead of the call: nothing but the number of refusals may differ.
 */
public final class RefusalsTest {
    private static final int LOW = Integer.MIN_VALUE;
    private static final int HIGH = Integer.MAX_VALUE;
    private static final int[] NO_HOSTS = {-1, 8, LOW, HIGH};
    private static final int[] NO_THINGS = {-1, Scenes.FREED, Scenes.NEVER_MADE, 299, 300, LOW, HIGH};
    private static final int[] NO_PLACES = {-1, Scenes.NO_PLACE, 8, LOW, HIGH};
    private static final int[] NO_BOXES = {Scenes.LEAF, Scenes.GATE, Scenes.FAR_LEAF, Scenes.FAR_GATE};
    private static final int[] TOO_FEW_PLACES = {0, -1, LOW};
    private static final int[] TOO_MANY_PLACES = {9, 10, HIGH};
    private static final int[] NO_SORTS = {-1, 4, LOW, HIGH};

    private static final Scene CORNER = Scenes::corner;
    private static final Scene ALL_THINGS = Scenes::allThings;
    private static final Scene ALL_LETTERS = Scenes::allLetters;
    private static final Scene ALL_WAITING = Scenes::allWaiting;
    private static final Scene ALL_WALKS = Scenes::allWalks;
    private static final Scene BROKEN_RING = Scenes::brokenRing;

    private static final Due DUE = new Due();
    private static final Unchanged UNCHANGED = new Unchanged(DUE);

    public static void main(String[] args) {
        roots();
        leaves();
        leavesInOrder();
        boxes();
        boxesInOrder();
        puts();
        putsInOrder();
        clears();
        rows();
        rowsInOrder();
        sets();
        copies();
        copiesBeyond();
        copiesInOrder();
        sends();
        sendsInOrder();
        delivers();
        cleans();
        doubts();
        notRefused();
        DUE.end();
    }

    private static void refused(Scene scene, int number, String name, Call call) {
        UNCHANGED.refused(scene, number, name, call);
    }

    private static void roots() {
        DUE.sentence("root: -1 HOST; -4 n below 1; -6 n above 8, THINGS");
        for (int host : NO_HOSTS) refused(CORNER, -1, "root(" + host + ", 1)", x -> x.root(host, 1));
        for (int n : TOO_FEW_PLACES) refused(CORNER, -4, "root(0, " + n + ")", x -> x.root(0, n));
        for (int n : TOO_MANY_PLACES) refused(CORNER, -6, "root(0, " + n + ")", x -> x.root(0, n));
        refused(ALL_THINGS, -6, "root(0, 1), all things", x -> x.root(0, 1));
        DUE.sentence("the first that fits, in this order: root");
        refused(CORNER, -1, "root(8, 0)", x -> x.root(8, 0));
        refused(CORNER, -1, "root(8, 9)", x -> x.root(8, 9));
        refused(ALL_THINGS, -1, "root(-1, 1), all things", x -> x.root(-1, 1));
        refused(ALL_THINGS, -4, "root(0, 0), all things", x -> x.root(0, 0));
        refused(ALL_THINGS, -6, "root(0, 9), all things", x -> x.root(0, 9));
    }

    private static void leaves() {
        DUE.sentence("leaf: -1; -2 it is no BOX or ROOT; -3; -5 it is not NEAR; -6");
        for (int t : NO_THINGS) refused(CORNER, -1, "leaf(" + t + ", 0, 1)", x -> x.leaf(t, 0, 1));
        for (int t : NO_BOXES) refused(CORNER, -2, "leaf(" + t + ", 0, 1)", x -> x.leaf(t, 0, 1));
        for (int p : NO_PLACES) refused(CORNER, -3, "leaf(BOX, " + p + ", 1)", x -> x.leaf(Scenes.BOX, p, 1));
        refused(CORNER, -3, "leaf(ROOT0, 4, 1)", x -> x.leaf(Scenes.ROOT0, 4, 1));
        refused(CORNER, -5, "leaf(FAR_BOX, 4, 1)", x -> x.leaf(Scenes.FAR_BOX, Scenes.OF_NOTHING, 1));
        refused(ALL_THINGS, -6, "leaf(BOX, 4, 1), all things", x -> x.leaf(Scenes.BOX, Scenes.OF_NOTHING, 1));
    }

    private static void leavesInOrder() {
        DUE.sentence("the first that fits, in this order: leaf");
        refused(CORNER, -1, "leaf(FREED, NO_PLACE, 1)", x -> x.leaf(Scenes.FREED, Scenes.NO_PLACE, 1));
        refused(ALL_THINGS, -1, "leaf(FREED, 0, 1), all things", x -> x.leaf(Scenes.FREED, 0, 1));
        refused(CORNER, -2, "leaf(LEAF, NO_PLACE, 1)", x -> x.leaf(Scenes.LEAF, Scenes.NO_PLACE, 1));
        refused(CORNER, -2, "leaf(FAR_GATE, -1, 1)", x -> x.leaf(Scenes.FAR_GATE, -1, 1));
        refused(ALL_THINGS, -2, "leaf(LEAF, 0, 1), all things", x -> x.leaf(Scenes.LEAF, 0, 1));
        refused(CORNER, -3, "leaf(FAR_BOX, NO_PLACE, 1)", x -> x.leaf(Scenes.FAR_BOX, Scenes.NO_PLACE, 1));
        refused(ALL_THINGS, -3, "leaf(BOX, NO_PLACE, 1), all things", x -> x.leaf(Scenes.BOX, Scenes.NO_PLACE, 1));
        refused(ALL_THINGS, -5, "leaf(FAR_BOX, 0, 1), all things", x -> x.leaf(Scenes.FAR_BOX, 0, 1));
    }

    private static void boxes() {
        DUE.sentence("box: -1; -2; -3; -4 n below 1; -5; -6 n above 8, THINGS");
        for (int t : NO_THINGS) refused(CORNER, -1, "box(" + t + ", 0, 1)", x -> x.box(t, 0, 1));
        for (int t : NO_BOXES) refused(CORNER, -2, "box(" + t + ", 0, 1)", x -> x.box(t, 0, 1));
        for (int p : NO_PLACES) refused(CORNER, -3, "box(BOX, " + p + ", 1)", x -> x.box(Scenes.BOX, p, 1));
        for (int n : TOO_FEW_PLACES) refused(CORNER, -4, "box(BOX, 0, " + n + ")", x -> x.box(Scenes.BOX, 0, n));
        refused(CORNER, -5, "box(FAR_BOX, 0, 1)", x -> x.box(Scenes.FAR_BOX, 0, 1));
        for (int n : TOO_MANY_PLACES) refused(CORNER, -6, "box(BOX, 0, " + n + ")", x -> x.box(Scenes.BOX, 0, n));
        refused(ALL_THINGS, -6, "box(BOX, 0, 1), all things", x -> x.box(Scenes.BOX, 0, 1));
    }

    private static void boxesInOrder() {
        DUE.sentence("the first that fits, in this order: box");
        refused(CORNER, -1, "box(FREED, NO_PLACE, 0)", x -> x.box(Scenes.FREED, Scenes.NO_PLACE, 0));
        refused(CORNER, -1, "box(FREED, 0, 9)", x -> x.box(Scenes.FREED, 0, 9));
        refused(ALL_THINGS, -1, "box(FREED, 0, 1), all things", x -> x.box(Scenes.FREED, 0, 1));
        refused(CORNER, -2, "box(LEAF, NO_PLACE, 1)", x -> x.box(Scenes.LEAF, Scenes.NO_PLACE, 1));
        refused(CORNER, -2, "box(GATE, 0, 0)", x -> x.box(Scenes.GATE, 0, 0));
        refused(CORNER, -2, "box(FAR_LEAF, 0, 9)", x -> x.box(Scenes.FAR_LEAF, 0, 9));
        refused(CORNER, -3, "box(BOX, NO_PLACE, 0)", x -> x.box(Scenes.BOX, Scenes.NO_PLACE, 0));
        refused(CORNER, -3, "box(BOX, NO_PLACE, 9)", x -> x.box(Scenes.BOX, Scenes.NO_PLACE, 9));
        refused(CORNER, -3, "box(FAR_BOX, NO_PLACE, 1)", x -> x.box(Scenes.FAR_BOX, Scenes.NO_PLACE, 1));
        refused(ALL_THINGS, -3, "box(BOX, NO_PLACE, 1), all things", x -> x.box(Scenes.BOX, Scenes.NO_PLACE, 1));
        refused(CORNER, -4, "box(FAR_BOX, 0, 0)", x -> x.box(Scenes.FAR_BOX, 0, 0));
        refused(ALL_THINGS, -4, "box(BOX, 0, 0), all things", x -> x.box(Scenes.BOX, 0, 0));
        refused(CORNER, -5, "box(FAR_BOX, 0, 9)", x -> x.box(Scenes.FAR_BOX, 0, 9));
        refused(ALL_THINGS, -5, "box(FAR_BOX, 0, 1), all things", x -> x.box(Scenes.FAR_BOX, 0, 1));
    }

    private static void puts() {
        DUE.sentence("put: -1 either; -2 the first is no BOX or ROOT; -3; -5 one is not NEAR, or they are of two HOSTS");
        for (int t : NO_THINGS) {
            refused(CORNER, -1, "put(" + t + ", 0, LEAF)", x -> x.put(t, 0, Scenes.LEAF));
            refused(CORNER, -1, "put(BOX, 0, " + t + ")", x -> x.put(Scenes.BOX, 0, t));
        }
        for (int t : NO_BOXES) refused(CORNER, -2, "put(" + t + ", 0, LEAF)", x -> x.put(t, 0, Scenes.LEAF));
        for (int p : NO_PLACES) refused(CORNER, -3, "put(BOX, " + p + ", LEAF)", x -> x.put(Scenes.BOX, p, Scenes.LEAF));
        refused(CORNER, -5, "put(FAR_BOX, 0, LEAF)", x -> x.put(Scenes.FAR_BOX, 0, Scenes.LEAF));
        refused(CORNER, -5, "put(BOX, 0, FAR_LEAF)", x -> x.put(Scenes.BOX, 0, Scenes.FAR_LEAF));
        refused(CORNER, -5, "put(FAR_BOX, 4, FAR_BOX)", x -> x.put(Scenes.FAR_BOX, Scenes.OF_NOTHING, Scenes.FAR_BOX));
        refused(CORNER, -5, "put(ROOT1, 0, FAR_GATE)", x -> x.put(Scenes.ROOT1, 0, Scenes.FAR_GATE));
        refused(CORNER, -5, "put(BOX, 0, GATE), two hosts", x -> x.put(Scenes.BOX, 0, Scenes.GATE));
        refused(CORNER, -5, "put(ROOT1, 0, LEAF), two hosts", x -> x.put(Scenes.ROOT1, 0, Scenes.LEAF));
        refused(CORNER, -5, "put(ROOT0, 0, ROOT1), two hosts", x -> x.put(Scenes.ROOT0, 0, Scenes.ROOT1));
    }

    private static void putsInOrder() {
        DUE.sentence("the first that fits, in this order: put");
        refused(CORNER, -1, "put(LEAF, 0, FREED)", x -> x.put(Scenes.LEAF, 0, Scenes.FREED));
        refused(CORNER, -1, "put(BOX, NO_PLACE, FREED)", x -> x.put(Scenes.BOX, Scenes.NO_PLACE, Scenes.FREED));
        refused(CORNER, -1, "put(FAR_BOX, 0, FREED)", x -> x.put(Scenes.FAR_BOX, 0, Scenes.FREED));
        refused(CORNER, -1, "put(FREED, 0, FAR_LEAF)", x -> x.put(Scenes.FREED, 0, Scenes.FAR_LEAF));
        refused(CORNER, -2, "put(LEAF, NO_PLACE, LEAF)", x -> x.put(Scenes.LEAF, Scenes.NO_PLACE, Scenes.LEAF));
        refused(CORNER, -2, "put(GATE, 0, LEAF), two hosts", x -> x.put(Scenes.GATE, 0, Scenes.LEAF));
        refused(CORNER, -2, "put(FAR_LEAF, 0, LEAF)", x -> x.put(Scenes.FAR_LEAF, 0, Scenes.LEAF));
        refused(CORNER, -3, "put(BOX, NO_PLACE, FAR_LEAF)", x -> x.put(Scenes.BOX, Scenes.NO_PLACE, Scenes.FAR_LEAF));
        refused(CORNER, -3, "put(BOX, NO_PLACE, GATE), two hosts", x -> x.put(Scenes.BOX, Scenes.NO_PLACE, Scenes.GATE));
        refused(CORNER, -3, "put(FAR_BOX, -1, LEAF)", x -> x.put(Scenes.FAR_BOX, -1, Scenes.LEAF));
    }

    private static void clears() {
        DUE.sentence("clear: -1; -2; -3; -5; -7 it does");
        for (int t : NO_THINGS) refused(CORNER, -1, "clear(" + t + ", 0)", x -> x.clear(t, 0));
        for (int t : NO_BOXES) refused(CORNER, -2, "clear(" + t + ", 0)", x -> x.clear(t, 0));
        for (int p : NO_PLACES) refused(CORNER, -3, "clear(BOX, " + p + ")", x -> x.clear(Scenes.BOX, p));
        refused(CORNER, -5, "clear(FAR_BOX, 0)", x -> x.clear(Scenes.FAR_BOX, Scenes.OF_LEAF));
        refused(CORNER, -5, "clear(FAR_BOX, 1)", x -> x.clear(Scenes.FAR_BOX, Scenes.OF_FOUR_SHORTS));
        refused(CORNER, -7, "clear(BOX, 4)", x -> x.clear(Scenes.BOX, Scenes.OF_NOTHING));
        refused(CORNER, -7, "clear(ROOT0, 3)", x -> x.clear(Scenes.ROOT0, 3));
        DUE.sentence("the first that fits, in this order: clear");
        refused(CORNER, -1, "clear(FREED, NO_PLACE)", x -> x.clear(Scenes.FREED, Scenes.NO_PLACE));
        refused(CORNER, -2, "clear(LEAF, NO_PLACE)", x -> x.clear(Scenes.LEAF, Scenes.NO_PLACE));
        refused(CORNER, -2, "clear(FAR_GATE, 0)", x -> x.clear(Scenes.FAR_GATE, 0));
        refused(CORNER, -3, "clear(FAR_BOX, NO_PLACE)", x -> x.clear(Scenes.FAR_BOX, Scenes.NO_PLACE));
        refused(CORNER, -5, "clear(FAR_BOX, 4)", x -> x.clear(Scenes.FAR_BOX, Scenes.OF_NOTHING));
    }

    private static void rows() {
        DUE.sentence("row: -1; -2 also a SORT that is not 0 to 3; -3; -4 n below 0; -5; -6 n above 32");
        for (int t : NO_THINGS) refused(CORNER, -1, "row(" + t + ", 0, 0, 1)", x -> x.row(t, 0, 0, 1));
        for (int t : NO_BOXES) refused(CORNER, -2, "row(" + t + ", 0, 0, 1)", x -> x.row(t, 0, 0, 1));
        for (int sort : NO_SORTS) refused(CORNER, -2, "row(BOX, 1, " + sort + ", 1)", x -> x.row(Scenes.BOX, 1, sort, 1));
        for (int p : NO_PLACES) refused(CORNER, -3, "row(BOX, " + p + ", 0, 1)", x -> x.row(Scenes.BOX, p, 0, 1));
        for (int n : new int[] {-1, LOW}) refused(CORNER, -4, "row(BOX, 1, 0, " + n + ")", x -> x.row(Scenes.BOX, 1, 0, n));
        refused(CORNER, -5, "row(FAR_BOX, 1, 0, 1)", x -> x.row(Scenes.FAR_BOX, 1, 0, 1));
        for (int n : new int[] {33, HIGH}) refused(CORNER, -6, "row(BOX, 1, 0, " + n + ")", x -> x.row(Scenes.BOX, 1, 0, n));
    }

    private static void rowsInOrder() {
        DUE.sentence("the first that fits, in this order: row");
        refused(CORNER, -1, "row(FREED, 0, 4, 1)", x -> x.row(Scenes.FREED, 0, 4, 1));
        refused(CORNER, -1, "row(FREED, NO_PLACE, 0, -1)", x -> x.row(Scenes.FREED, Scenes.NO_PLACE, 0, -1));
        refused(CORNER, -1, "row(FREED, 0, 0, 33)", x -> x.row(Scenes.FREED, 0, 0, 33));
        refused(CORNER, -2, "row(LEAF, NO_PLACE, 0, 1)", x -> x.row(Scenes.LEAF, Scenes.NO_PLACE, 0, 1));
        refused(CORNER, -2, "row(FAR_LEAF, 0, 0, -1)", x -> x.row(Scenes.FAR_LEAF, 0, 0, -1));
        refused(CORNER, -2, "row(BOX, NO_PLACE, 4, 1)", x -> x.row(Scenes.BOX, Scenes.NO_PLACE, 4, 1));
        refused(CORNER, -2, "row(BOX, 1, -1, -1)", x -> x.row(Scenes.BOX, 1, -1, -1));
        refused(CORNER, -2, "row(FAR_BOX, 1, 4, 1)", x -> x.row(Scenes.FAR_BOX, 1, 4, 1));
        refused(CORNER, -2, "row(BOX, 1, 4, 33)", x -> x.row(Scenes.BOX, 1, 4, 33));
        refused(CORNER, -3, "row(BOX, NO_PLACE, 0, -1)", x -> x.row(Scenes.BOX, Scenes.NO_PLACE, 0, -1));
        refused(CORNER, -3, "row(FAR_BOX, NO_PLACE, 0, 1)", x -> x.row(Scenes.FAR_BOX, Scenes.NO_PLACE, 0, 1));
        refused(CORNER, -3, "row(BOX, -1, 0, 33)", x -> x.row(Scenes.BOX, -1, 0, 33));
        refused(CORNER, -4, "row(FAR_BOX, 1, 0, -1)", x -> x.row(Scenes.FAR_BOX, 1, 0, -1));
        refused(CORNER, -5, "row(FAR_BOX, 1, 0, 33)", x -> x.row(Scenes.FAR_BOX, 1, 0, 33));
    }

    private static void sets() {
        DUE.sentence("set: -1; -2 also a THING in the PLACE; -3 (an element, if a ROW is there); -5; -7");
        for (int t : NO_THINGS) refused(CORNER, -1, "set(" + t + ", 1, 0, 1)", x -> x.set(t, 1, 0, 1));
        for (int t : NO_BOXES) refused(CORNER, -2, "set(" + t + ", 1, 0, 1)", x -> x.set(t, 1, 0, 1));
        refused(CORNER, -2, "set(BOX, OF_LEAF, 0, 1)", x -> x.set(Scenes.BOX, Scenes.OF_LEAF, 0, 1));
        for (int p : NO_PLACES) refused(CORNER, -3, "set(BOX, " + p + ", 0, 1)", x -> x.set(Scenes.BOX, p, 0, 1));
        for (int i : new int[] {-1, 4, 32, LOW, HIGH}) refused(CORNER, -3, "set(BOX, 1, " + i + ", 1)", x -> x.set(Scenes.BOX, 1, i, 1));
        refused(CORNER, -5, "set(FAR_BOX, 1, 0, 1)", x -> x.set(Scenes.FAR_BOX, Scenes.OF_FOUR_SHORTS, 0, 1));
        refused(CORNER, -7, "set(BOX, OF_NOTHING, 0, 1)", x -> x.set(Scenes.BOX, Scenes.OF_NOTHING, 0, 1));
        DUE.sentence("the first that fits, in this order: set");
        refused(CORNER, -1, "set(FREED, NO_PLACE, -1, 1)", x -> x.set(Scenes.FREED, Scenes.NO_PLACE, -1, 1));
        refused(CORNER, -2, "set(LEAF, NO_PLACE, 0, 1)", x -> x.set(Scenes.LEAF, Scenes.NO_PLACE, 0, 1));
        refused(CORNER, -2, "set(BOX, OF_LEAF, -1, 1)", x -> x.set(Scenes.BOX, Scenes.OF_LEAF, -1, 1));
        refused(CORNER, -2, "set(FAR_BOX, OF_LEAF, 0, 1)", x -> x.set(Scenes.FAR_BOX, Scenes.OF_LEAF, 0, 1));
        refused(CORNER, -3, "set(FAR_BOX, NO_PLACE, 0, 1)", x -> x.set(Scenes.FAR_BOX, Scenes.NO_PLACE, 0, 1));
        refused(CORNER, -3, "set(FAR_BOX, 1, 4, 1)", x -> x.set(Scenes.FAR_BOX, Scenes.OF_FOUR_SHORTS, 4, 1));
        refused(CORNER, -5, "set(FAR_BOX, OF_NOTHING, 0, 1)", x -> x.set(Scenes.FAR_BOX, Scenes.OF_NOTHING, 0, 1));
        refused(CORNER, -7, "set(BOX, OF_NOTHING, -1, 1), no element to be beyond", x -> x.set(Scenes.BOX, Scenes.OF_NOTHING, -1, 1));
    }

    /** A copy in BOX or FAR_BOX. */
    private static void copyRefused(int number, int box, int p, int q, int i, int n) {
        String name = "copy(" + box + ", " + p + ", " + q + ", " + i + ", " + n + ")";
        refused(CORNER, number, name, x -> x.copy(box, p, q, i, n));
    }

    private static void copies() {
        DUE.sentence("copy: -1; -2 also a THING in one, or ROWS of two SORTS; -3; -4 n below 0; -5; -7");
        for (int t : NO_THINGS) copyRefused(-1, t, 1, 2, 0, 1);
        for (int t : NO_BOXES) copyRefused(-2, t, 1, 2, 0, 1);
        copyRefused(-2, Scenes.BOX, Scenes.OF_LEAF, Scenes.OF_FOUR_SHORTS, 0, 1);
        copyRefused(-2, Scenes.BOX, Scenes.OF_FOUR_SHORTS, Scenes.OF_LEAF, 0, 1);
        copyRefused(-2, Scenes.BOX, Scenes.OF_FOUR_SHORTS, Scenes.OF_FOUR_INTS, 0, 1);
        copyRefused(-2, Scenes.BOX, Scenes.OF_FOUR_INTS, Scenes.OF_THREE_SHORTS, 0, 0);
        for (int p : NO_PLACES) copyRefused(-3, Scenes.BOX, p, Scenes.OF_FOUR_SHORTS, 0, 1);
        for (int q : NO_PLACES) copyRefused(-3, Scenes.BOX, Scenes.OF_FOUR_SHORTS, q, 0, 1);
        for (int n : new int[] {-1, LOW}) copyRefused(-4, Scenes.BOX, Scenes.OF_FOUR_SHORTS, Scenes.OF_THREE_SHORTS, 0, n);
        copyRefused(-5, Scenes.FAR_BOX, Scenes.OF_FOUR_SHORTS, Scenes.OF_THREE_SHORTS, 0, 1);
        copyRefused(-7, Scenes.BOX, Scenes.OF_NOTHING, Scenes.OF_FOUR_SHORTS, 0, 1);
        copyRefused(-7, Scenes.BOX, Scenes.OF_FOUR_SHORTS, Scenes.OF_NOTHING, 0, 1);
        copyRefused(-7, Scenes.BOX, Scenes.OF_NOTHING, Scenes.OF_NOTHING, 0, 0);
    }

    private static void copiesBeyond() {
        DUE.sentence("copy: -3 also, if both are ROWS and n is not below 0, i below 0, i + n above the first one's elements, n above the second one's");
        int four = Scenes.OF_FOUR_SHORTS;
        int three = Scenes.OF_THREE_SHORTS;
        for (int i : new int[] {-1, LOW}) copyRefused(-3, Scenes.BOX, four, three, i, 0);
        copyRefused(-3, Scenes.BOX, four, three, 5, 0);
        copyRefused(-3, Scenes.BOX, four, three, 4, 1);
        copyRefused(-3, Scenes.BOX, four, three, 2, 3);
        copyRefused(-3, Scenes.BOX, four, three, 0, 4);
        copyRefused(-3, Scenes.BOX, three, four, 0, 4);
        copyRefused(-3, Scenes.BOX, four, four, 1, 4);
        copyRefused(-3, Scenes.BOX, four, three, -1, 1);
        copyRefused(-3, Scenes.BOX, four, three, HIGH, 1);
        copyRefused(-3, Scenes.BOX, four, three, 1, HIGH);
        copyRefused(-3, Scenes.BOX, four, three, HIGH, HIGH);
        copyRefused(-3, Scenes.BOX, four, three, LOW, HIGH);
    }

    private static void copiesInOrder() {
        DUE.sentence("the first that fits, in this order: copy");
        int four = Scenes.OF_FOUR_SHORTS;
        int ints = Scenes.OF_FOUR_INTS;
        int none = Scenes.OF_NOTHING;
        copyRefused(-1, Scenes.FREED, Scenes.NO_PLACE, four, 0, -1);
        copyRefused(-2, Scenes.LEAF, Scenes.NO_PLACE, four, 0, -1);
        copyRefused(-2, Scenes.BOX, Scenes.OF_LEAF, Scenes.NO_PLACE, 0, 1);
        copyRefused(-2, Scenes.BOX, Scenes.NO_PLACE, Scenes.OF_LEAF, 0, 1);
        copyRefused(-2, Scenes.BOX, Scenes.OF_LEAF, four, 0, -1);
        copyRefused(-2, Scenes.BOX, four, ints, 9, 9);
        copyRefused(-2, Scenes.BOX, four, ints, 0, -1);
        copyRefused(-2, Scenes.FAR_BOX, four, ints, 0, 1);
        copyRefused(-2, Scenes.FAR_BOX, Scenes.OF_LEAF, four, 0, 1);
        copyRefused(-2, Scenes.BOX, Scenes.OF_LEAF, none, 0, 1);
        copyRefused(-2, Scenes.BOX, none, Scenes.OF_LEAF, 0, 1);
        copyRefused(-3, Scenes.BOX, Scenes.NO_PLACE, four, 0, -1);
        copyRefused(-3, Scenes.FAR_BOX, four, Scenes.NO_PLACE, 0, 1);
        copyRefused(-3, Scenes.BOX, none, Scenes.NO_PLACE, 0, 1);
        copyRefused(-3, Scenes.BOX, Scenes.NO_PLACE, none, 0, 1);
        copyRefused(-3, Scenes.FAR_BOX, four, four, 1, 4);
        copyRefused(-4, Scenes.BOX, four, four, -1, -1);
        copyRefused(-4, Scenes.BOX, four, four, 9, -1);
        copyRefused(-4, Scenes.FAR_BOX, four, four, 0, -1);
        copyRefused(-4, Scenes.BOX, none, four, 0, -1);
        copyRefused(-5, Scenes.FAR_BOX, none, four, 0, 1);
        copyRefused(-5, Scenes.FAR_BOX, four, none, 9, 9);
        copyRefused(-7, Scenes.BOX, none, four, -1, 99);
        copyRefused(-7, Scenes.BOX, four, none, -1, 99);
    }

    private static void sends() {
        DUE.sentence("send: -1 either; -2 the second is no ROOT; -3; -5 the THING is not NEAR, or of the ROOT's HOST; -6");
        for (int t : NO_THINGS) {
            refused(CORNER, -1, "send(" + t + ", ROOT1, 0)", x -> x.send(t, Scenes.ROOT1, 0));
            refused(CORNER, -1, "send(LEAF, " + t + ", 0)", x -> x.send(Scenes.LEAF, t, 0));
        }
        int[] noRoots = {Scenes.LEAF, Scenes.BOX, Scenes.GATE, Scenes.FAR_BOX};
        for (int r : noRoots) refused(CORNER, -2, "send(ROOT1, " + r + ", 0)", x -> x.send(Scenes.ROOT1, r, 0));
        for (int p : NO_PLACES) refused(CORNER, -3, "send(LEAF, ROOT1, " + p + ")", x -> x.send(Scenes.LEAF, Scenes.ROOT1, p));
        refused(CORNER, -3, "send(LEAF, ROOT1, 4)", x -> x.send(Scenes.LEAF, Scenes.ROOT1, 4));
        int[] far = {Scenes.FAR_BOX, Scenes.FAR_LEAF, Scenes.FAR_GATE};
        for (int t : far) refused(CORNER, -5, "send(" + t + ", ROOT2, 0)", x -> x.send(t, Scenes.ROOT2, 0));
        refused(CORNER, -5, "send(LEAF, ROOT0, 0)", x -> x.send(Scenes.LEAF, Scenes.ROOT0, 0));
        refused(CORNER, -5, "send(ROOT0, ROOT0, 0)", x -> x.send(Scenes.ROOT0, Scenes.ROOT0, 0));
        refused(CORNER, -5, "send(GATE, ROOT1, 0)", x -> x.send(Scenes.GATE, Scenes.ROOT1, 0));
        refused(ALL_LETTERS, -6, "send(LEAF, ROOT1, 0), all letters", x -> x.send(Scenes.LEAF, Scenes.ROOT1, 0));
        refused(ALL_LETTERS, -6, "send(GATE, ROOT2, 0), all letters", x -> x.send(Scenes.GATE, Scenes.ROOT2, 0));
        refused(ALL_WAITING, -6, "send(GATE, ROOT2, 0), all wait", x -> x.send(Scenes.GATE, Scenes.ROOT2, 0));
    }

    private static void sendsInOrder() {
        DUE.sentence("the first that fits, in this order: send");
        refused(CORNER, -1, "send(FREED, LEAF, 0)", x -> x.send(Scenes.FREED, Scenes.LEAF, 0));
        refused(CORNER, -1, "send(FREED, ROOT1, NO_PLACE)", x -> x.send(Scenes.FREED, Scenes.ROOT1, Scenes.NO_PLACE));
        refused(CORNER, -1, "send(FAR_LEAF, FREED, 0)", x -> x.send(Scenes.FAR_LEAF, Scenes.FREED, 0));
        refused(ALL_LETTERS, -1, "send(FREED, ROOT1, 0), all letters", x -> x.send(Scenes.FREED, Scenes.ROOT1, 0));
        refused(CORNER, -2, "send(ROOT1, LEAF, NO_PLACE)", x -> x.send(Scenes.ROOT1, Scenes.LEAF, Scenes.NO_PLACE));
        refused(CORNER, -2, "send(FAR_LEAF, BOX, 0)", x -> x.send(Scenes.FAR_LEAF, Scenes.BOX, 0));
        refused(ALL_LETTERS, -2, "send(ROOT1, BOX, 0), all letters", x -> x.send(Scenes.ROOT1, Scenes.BOX, 0));
        refused(CORNER, -3, "send(FAR_LEAF, ROOT1, -1)", x -> x.send(Scenes.FAR_LEAF, Scenes.ROOT1, -1));
        refused(CORNER, -3, "send(LEAF, ROOT0, 4)", x -> x.send(Scenes.LEAF, Scenes.ROOT0, 4));
        refused(ALL_LETTERS, -3, "send(LEAF, ROOT1, 4), all letters", x -> x.send(Scenes.LEAF, Scenes.ROOT1, 4));
        refused(ALL_LETTERS, -5, "send(FAR_LEAF, ROOT1, 0), all letters", x -> x.send(Scenes.FAR_LEAF, Scenes.ROOT1, 0));
        refused(ALL_LETTERS, -5, "send(LEAF, ROOT0, 0), all letters", x -> x.send(Scenes.LEAF, Scenes.ROOT0, 0));
        refused(ALL_WAITING, -5, "send(GATE, ROOT1, 0), all wait", x -> x.send(Scenes.GATE, Scenes.ROOT1, 0));
    }

    private static void delivers() {
        DUE.sentence("deliver: -1; -6 (it is not, then)");
        for (int l : new int[] {-1, Scenes.LETTERS, 599, 600, LOW, HIGH}) refused(CORNER, -1, "deliver(" + l + ")", x -> x.deliver(l));
        refused(Scenes::nothing, -1, "deliver(0) on a new object", x -> x.deliver(0));
        refused(ALL_LETTERS, -1, "deliver(600), all letters", x -> x.deliver(600));
        refused(ALL_THINGS, -6, "deliver a NAME, all things", x -> x.deliver(Scenes.NAME_FOR_A_NEW_GATE));
        refused(ALL_LETTERS, -6, "deliver a STEP, all letters", x -> x.deliver(Scenes.STEP));
    }

    private static void cleans() {
        DUE.sentence("clean: -1; -6 LETTERS");
        for (int host : NO_HOSTS) refused(CORNER, -1, "clean(" + host + ")", x -> x.clean(host));
        refused(ALL_LETTERS, -6, "clean(1), all letters", x -> x.clean(1));
        DUE.sentence("the first that fits, in this order: clean");
        refused(ALL_LETTERS, -1, "clean(8), all letters", x -> x.clean(8));
    }

    private static void doubts() {
        DUE.sentence("doubt: -1; -2 a GATE; -5 an EXIT that is 0 or BROKEN; -6 WALKS, LETTERS");
        for (int t : NO_THINGS) refused(CORNER, -1, "doubt(" + t + ")", x -> x.doubt(t));
        refused(CORNER, -2, "doubt(GATE)", x -> x.doubt(Scenes.GATE));
        refused(CORNER, -2, "doubt(FAR_GATE)", x -> x.doubt(Scenes.FAR_GATE));
        for (int t : new int[] {Scenes.ROOT0, Scenes.FAR_BOX, Scenes.FAR_LEAF}) refused(CORNER, -5, "doubt(" + t + ")", x -> x.doubt(t));
        refused(BROKEN_RING, -5, "doubt of a BROKEN one", x -> x.doubt(3));
        refused(ALL_WALKS, -6, "doubt(BOX), all walks", x -> x.doubt(Scenes.BOX));
        refused(ALL_LETTERS, -6, "doubt(BOX), all letters", x -> x.doubt(Scenes.BOX));
        DUE.sentence("the first that fits, in this order: doubt");
        refused(ALL_WALKS, -1, "doubt(FREED), all walks", x -> x.doubt(Scenes.FREED));
        refused(ALL_LETTERS, -1, "doubt(FREED), all letters", x -> x.doubt(Scenes.FREED));
        refused(ALL_WALKS, -2, "doubt(GATE), all walks", x -> x.doubt(Scenes.GATE));
        refused(ALL_LETTERS, -2, "doubt(GATE), all letters", x -> x.doubt(Scenes.GATE));
        refused(ALL_WALKS, -5, "doubt(ROOT0), all walks", x -> x.doubt(Scenes.ROOT0));
        refused(ALL_LETTERS, -5, "doubt(FAR_BOX), all letters", x -> x.doubt(Scenes.FAR_BOX));
    }

    private static void changesNothing(String name, long want, Call call) {
        UNCHANGED.unchanged(CORNER, want, name, call);
    }

    private static void notRefused() {
        DUE.sentence("element: 0 if there is none such (nothing is refused)");
        changesNothing("element(FREED, 0, 0)", 0, x -> x.element(Scenes.FREED, 0, 0));
        changesNothing("element(BOX, NO_PLACE, 0)", 0, x -> x.element(Scenes.BOX, Scenes.NO_PLACE, 0));
        changesNothing("element(BOX, 1, 4)", 0, x -> x.element(Scenes.BOX, 1, 4));
        DUE.sentence("NONE is an answer, no refusal");
        changesNothing("holds(FREED, 0)", -20, x -> x.holds(Scenes.FREED, 0));
        changesNothing("thing(NEVER_MADE, 0)", -1, x -> x.thing(Scenes.NEVER_MADE, 0));
        changesNothing("thing(FREED, 0)", -1, x -> x.thing(Scenes.FREED, 0));
        changesNothing("gate(8, BOX)", -1, x -> x.gate(8, Scenes.BOX));
        changesNothing("letter(9, 0)", -1, x -> x.letter(9, 0));
        changesNothing("freed(9)", -1, x -> x.freed(9));
        changesNothing("walk(1, 0)", -1, x -> x.walk(1, 0));
        changesNothing("meant(FREED)", 0, x -> x.meant(Scenes.FREED) ? 1 : 0);
        changesNothing("why(FREED, 0)", -1, x -> x.why(Scenes.FREED, 0));
        changesNothing("dead(99)", -1, x -> x.dead(99));
        changesNothing("audit(GATE, 0)", -1, x -> x.audit(Scenes.GATE, 0));
        changesNothing("status(8)", -1, x -> x.status(8));
    }
}
