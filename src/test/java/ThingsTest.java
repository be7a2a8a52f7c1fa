/** Promises 1 to 13: a new object, things, places, rows, and what is told of them. */
public final class ThingsTest {
    private static final int LOW = Integer.MIN_VALUE;
    private static final int HIGH = Integer.MAX_VALUE;
    private static final Due DUE = new Due();

    public static void main(String[] args) {
        newObject();
        roots();
        leaves();
        boxes();
        puts();
        clears();
        rows();
        sets();
        setsBySort();
        copies();
        copiesRefused();
        elementsAndHolds();
        things();
        freedThings();
        gates();
        roomForThings();
        DUE.end();
    }

    private static void due(String call, long got, long want) {
        DUE.due(call, got, want);
    }

    /** Root 0 of host 0 with leaf 1, root 2 of host 1, gate 3 of host 1 for the leaf, box 4 of host 0 that is not near. */
    private static House withFarBox() {
        House x = new House();
        x.root(0, 4);
        x.leaf(0, 0, 5);
        x.root(1, 4);
        x.send(1, 2, 0);
        x.deliver(0);
        x.box(0, 1, 2);
        x.clear(0, 1);
        return x;
    }

    private static void newObject() {
        DUE.sentence("A new object: No THINGS, no LETTERS");
        House x = new House();
        due("NONE", FarHold.NONE, -1);
        for (int what = 0; what <= 7; what++) due("new: status(" + what + ")", x.status(what), 0);
        for (int what = 11; what <= 17; what++) due("new: status(" + what + ")", x.status(what), 0);
        due("new: thing(0, 0)", x.thing(0, 0), -1);
        due("new: letter(0, 0)", x.letter(0, 0), -1);
        x.root(0, 1);
        due("an object of its own", new FarHold().status(0), 0);
    }

    private static void roots() {
        DUE.sentence("root: A new ROOT with n PLACES: its number");
        House x = new House();
        due("root(0, 1)", x.root(0, 1), 0);
        due("root(7, 8)", x.root(7, 8), 1);
        due("root(0, 3), a second of its host", x.root(0, 3), 2);
        due("thing(1, 2)", x.thing(1, 2), 8);
        due("thing(1, 1)", x.thing(1, 1), 7);
        due("holds(2, 2)", x.holds(2, 2), -1);
        due("root(-1, 0)", x.root(-1, 0), -1);
        due("root(8, 9)", x.root(8, 9), -1);
        due("root(MIN, 1)", x.root(LOW, 1), -1);
        due("root(MAX, 1)", x.root(HIGH, 1), -1);
        due("root(0, 0)", x.root(0, 0), -4);
        due("root(0, MIN)", x.root(0, LOW), -4);
        due("root(0, 9)", x.root(0, 9), -6);
        due("root(0, MAX)", x.root(0, HIGH), -6);
        due("nothing made by refusals", x.status(0), 3);
        due("refusals -1", x.status(11), 4);
    }

    private static void leaves() {
        DUE.sentence("leaf: A new LEAF into a PLACE: its number");
        House x = withFarBox();
        due("leaf(0, 2, -9)", x.leaf(0, 2, -9), 5);
        due("thing(5, 0)", x.thing(5, 0), 0);
        due("thing(5, 3)", x.thing(5, 3), -9);
        due("holds(0, 2)", x.holds(0, 2), 5);
        due("leaf in place of another", x.leaf(0, 2, 1), 6);
        due("holds(0, 2) then", x.holds(0, 2), 6);
        due("leaf(-1, 9, 0)", x.leaf(-1, 9, 0), -1);
        due("leaf(7, 0, 0)", x.leaf(7, 0, 0), -1);
        due("leaf(MAX, 0, 0)", x.leaf(HIGH, 0, 0), -1);
        due("leaf into a leaf", x.leaf(1, 9, 0), -2);
        due("leaf into a gate", x.leaf(3, 0, 0), -2);
        due("leaf(0, 4, 0)", x.leaf(0, 4, 0), -3);
        due("leaf(0, -1, 0)", x.leaf(0, -1, 0), -3);
        due("leaf(0, MIN, 0)", x.leaf(0, LOW, 0), -3);
        due("leaf beyond a far box", x.leaf(4, 2, 0), -3);
        due("leaf into a far box", x.leaf(4, 0, 0), -5);
        x.clean(0);
        due("leaf into a freed box", x.leaf(4, 0, 0), -1);
    }

    private static void boxes() {
        DUE.sentence("box: A new BOX with n PLACES into a PLACE: its number");
        House x = withFarBox();
        due("box(0, 2, 1)", x.box(0, 2, 1), 5);
        due("box(5, 0, 8)", x.box(5, 0, 8), 6);
        due("thing(6, 0)", x.thing(6, 0), 1);
        due("thing(6, 2)", x.thing(6, 2), 8);
        due("box(9, 9, 0)", x.box(9, 9, 0), -1);
        due("box into a leaf", x.box(1, 9, 0), -2);
        due("box into a gate", x.box(3, 0, 1), -2);
        due("box(0, 4, 0)", x.box(0, 4, 0), -3);
        due("box(0, 3, 0)", x.box(0, 3, 0), -4);
        due("box(4, 0, 0), far", x.box(4, 0, 0), -4);
        due("box(4, 0, 9), far", x.box(4, 0, 9), -5);
        due("box(0, 3, 9)", x.box(0, 3, 9), -6);
        due("box(0, 3, MIN)", x.box(0, 3, LOW), -4);
        due("box(0, 3, MAX)", x.box(0, 3, HIGH), -6);
    }

    private static void puts() {
        DUE.sentence("put: A PLACE holds a THING: 1");
        House x = withFarBox();
        due("put(0, 3, 1)", x.put(0, 3, 1), 1);
        due("holds(0, 3)", x.holds(0, 3), 1);
        due("put a root into itself", x.put(0, 1, 0), 1);
        due("holds(0, 1)", x.holds(0, 1), 0);
        due("put a gate", x.put(2, 3, 3), 1);
        due("holds(2, 3)", x.holds(2, 3), 3);
        x.row(0, 2, 0, 1);
        due("put over a row", x.put(0, 2, 1), 1);
        due("holds(0, 2)", x.holds(0, 2), 1);
        due("element of the row that was", x.element(0, 2, 0), 0);
        due("put(9, 0, 1)", x.put(9, 0, 1), -1);
        due("put(1, 9, 9)", x.put(1, 9, 9), -1);
        due("put(0, 0, -1)", x.put(0, 0, -1), -1);
        due("put into a leaf", x.put(1, 9, 0), -2);
        due("put into a gate", x.put(3, 0, 0), -2);
        due("put(0, 4, 4)", x.put(0, 4, 4), -3);
        due("put into a far box", x.put(4, 0, 1), -5);
        due("put a far box", x.put(0, 0, 4), -5);
        due("put over two hosts", x.put(0, 0, 3), -5);
        due("put over two hosts, back", x.put(2, 0, 1), -5);
        due("the place as it was", x.holds(0, 0), 1);
    }

    private static void clears() {
        DUE.sentence("clear: A PLACE holds NOTHING: 1");
        House x = withFarBox();
        x.row(0, 2, 1, 3);
        due("clear(0, 0)", x.clear(0, 0), 1);
        due("holds(0, 0)", x.holds(0, 0), -1);
        due("clear(0, 0) again", x.clear(0, 0), -7);
        due("clear a row", x.clear(0, 2), 1);
        due("holds(0, 2)", x.holds(0, 2), -1);
        due("clear(9, 0)", x.clear(9, 0), -1);
        due("clear of a leaf", x.clear(1, 0), -2);
        due("clear of a gate", x.clear(3, 0), -2);
        due("clear(0, 4)", x.clear(0, 4), -3);
        due("clear(0, -1)", x.clear(0, -1), -3);
        due("clear of a far box", x.clear(4, 0), -5);
    }

    private static void rows() {
        DUE.sentence("row: A new ROW of n elements, all 0, into a PLACE: 1");
        House x = withFarBox();
        due("row(0, 1, 0, 0)", x.row(0, 1, 0, 0), 1);
        due("row(0, 2, 3, 32)", x.row(0, 2, 3, 32), 1);
        due("element(0, 2, 31)", x.element(0, 2, 31), 0);
        due("holds(0, 2)", x.holds(0, 2), -13);
        due("row over a thing", x.row(0, 0, 1, 4), 1);
        due("holds(0, 0)", x.holds(0, 0), -11);
        x.set(0, 0, 1, 8);
        due("row over a row", x.row(0, 0, 2, 4), 1);
        due("a new row is all 0", x.element(0, 0, 1), 0);
        due("row(9, 0, 4, 0)", x.row(9, 0, 4, 0), -1);
        due("row into a leaf", x.row(1, 9, 0, 0), -2);
        due("row of sort 4", x.row(0, 9, 4, -1), -2);
        due("row of sort -1", x.row(0, 0, -1, 1), -2);
        due("row(0, 4, 0, -1)", x.row(0, 4, 0, -1), -3);
        due("row of -1", x.row(4, 0, 0, -1), -4);
        due("row of MIN", x.row(0, 0, 0, LOW), -4);
        due("row into a far box", x.row(4, 0, 0, 33), -5);
        due("row of 33", x.row(0, 0, 0, 33), -6);
        due("row of MAX", x.row(0, 0, 0, HIGH), -6);
        due("the row as it was", x.holds(0, 0), -12);
    }

    private static void sets() {
        DUE.sentence("set: Element i of a ROW becomes v: 1");
        House x = withFarBox();
        x.row(0, 1, 2, 3);
        due("set(0, 1, 2, 7)", x.set(0, 1, 2, 7), 1);
        due("element(0, 1, 2)", x.element(0, 1, 2), 7);
        due("element(0, 1, 1)", x.element(0, 1, 1), 0);
        due("set(9, 0, 0, 1)", x.set(9, 0, 0, 1), -1);
        due("set in a leaf", x.set(1, 0, 0, 1), -2);
        due("set in a thing", x.set(0, 0, 99, 1), -2);
        due("set(0, 4, 0, 1)", x.set(0, 4, 0, 1), -3);
        due("set(0, 1, 3, 1)", x.set(0, 1, 3, 1), -3);
        due("set(0, 1, -1, 1)", x.set(0, 1, -1, 1), -3);
        due("set(0, 1, MAX, 1)", x.set(0, 1, HIGH, 1), -3);
        due("set in nothing, any i", x.set(0, 2, -5, 1), -7);
        due("set in nothing of a far box", x.set(4, 0, 0, 1), -5);
        due("set beyond a far box", x.set(4, 2, 0, 1), -3);
        House y = new House();
        y.root(0, 2);
        y.box(0, 0, 2);
        y.row(1, 0, 0, 2);
        y.box(1, 1, 1);
        y.clear(0, 0);
        due("far: set beyond the elements", y.set(1, 0, 2, 1), -3);
        due("far: set in a thing", y.set(1, 1, 0, 1), -2);
        due("far: set", y.set(1, 0, 1, 1), -5);
        due("far: element", y.element(1, 0, 1), 0);
    }

    private static void setsBySort() {
        DUE.sentence("(its lowest bits, as the SORT has them)");
        House x = new House();
        x.root(0, 4);
        long[] values = {127, 128, 300, -129, 32768, 65535, 1L << 31, -1, Long.MIN_VALUE, Long.MAX_VALUE, 0x1234567890abcdefL};
        for (int sort = 0; sort <= 3; sort++) x.row(0, sort, sort, 2);
        for (long v : values) {
            long[] want = {(byte) v, (short) v, (int) v, v};
            for (int sort = 0; sort <= 3; sort++) {
                due("set " + v, x.set(0, sort, 1, v), 1);
                due("element of sort " + sort + " after " + v, x.element(0, sort, 1), want[sort]);
            }
        }
    }

    private static House withRows() {
        House x = new House();
        x.root(0, 6);
        x.row(0, 0, 1, 5);
        x.row(0, 1, 1, 4);
        x.row(0, 2, 2, 5);
        x.leaf(0, 3, 0);
        x.row(0, 5, 1, 0);
        for (int i = 0; i < 5; i++) x.set(0, 0, i, 10 + i);
        return x;
    }

    private static void copies() {
        DUE.sentence("copy: Elements i, i + 1, .. of the ROW in PLACE p become elements 0, 1, .. of the ROW in PLACE q");
        House x = withRows();
        due("copy(0, 0, 1, 1, 3)", x.copy(0, 0, 1, 1, 3), 1);
        for (int i = 0; i < 3; i++) due("copied " + i, x.element(0, 1, i), 11 + i);
        due("not copied", x.element(0, 1, 3), 0);
        due("copy none", x.copy(0, 0, 5, 5, 0), 1);
        due("copy in one row, down", x.copy(0, 0, 0, 2, 3), 1);
        long[] want = {12, 13, 14, 13, 14};
        for (int i = 0; i < 5; i++) due("as they were ahead " + i, x.element(0, 0, i), want[i]);
        due("copy all", x.copy(0, 1, 0, 0, 4), 1);
        due("element(0, 0, 0)", x.element(0, 0, 0), 11);
        due("element(0, 0, 4)", x.element(0, 0, 4), 14);
    }

    private static void copiesRefused() {
        DUE.sentence("copy: its refusals");
        House x = withRows();
        due("copy(9, ..)", x.copy(9, 0, 1, 0, 1), -1);
        due("copy of a leaf", x.copy(1, 0, 1, 0, 1), -2);
        due("copy from a thing", x.copy(0, 3, 1, 0, 1), -2);
        due("copy to a thing", x.copy(0, 0, 3, 0, 1), -2);
        due("copy from a thing to no place", x.copy(0, 3, 6, 0, -1), -2);
        due("copy from no place to a thing", x.copy(0, -1, 3, 0, -1), -2);
        due("copy of two sorts", x.copy(0, 0, 2, 9, 9), -2);
        due("copy from no place", x.copy(0, 6, 1, 0, -1), -3);
        due("copy to no place", x.copy(0, 0, -1, 0, -1), -3);
        due("copy from i below 0", x.copy(0, 0, 1, -1, 1), -3);
        due("copy beyond the first", x.copy(0, 0, 1, 3, 3), -3);
        due("copy beyond the second", x.copy(0, 0, 1, 0, 5), -3);
        due("copy of MAX", x.copy(0, 0, 1, HIGH, HIGH), -3);
        due("copy of MAX and 1", x.copy(0, 0, 1, HIGH, 1), -3);
        due("copy of MIN", x.copy(0, 0, 1, LOW, 0), -3);
        due("copy n below 0, i below 0", x.copy(0, 0, 1, -1, -1), -4);
        due("copy n MIN", x.copy(0, 0, 1, 0, LOW), -4);
        due("copy from nothing, n below 0", x.copy(0, 4, 1, 0, -1), -4);
        due("copy from nothing, beyond", x.copy(0, 4, 1, 9, 9), -7);
        due("copy to nothing", x.copy(0, 0, 4, 9, 9), -7);
        due("copy of nothing", x.copy(0, 4, 4, 0, 0), -7);
        for (int i = 0; i < 4; i++) due("nothing was copied", x.element(0, 1, i), 0);
        x.box(0, 4, 2);
        x.row(2, 0, 0, 1);
        x.clear(0, 4);
        due("copy in a far box, nothing", x.copy(2, 0, 1, 0, 1), -5);
        due("copy in a far box, beyond", x.copy(2, 0, 0, 1, 1), -3);
    }

    private static void elementsAndHolds() {
        DUE.sentence("holds: a THING's number; NONE for NOTHING; -10 less the SORT of a ROW; -20 if there is no such BOX, ROOT, PLACE");
        House x = withRows();
        due("element(0, 0, 4)", x.element(0, 0, 4), 14);
        due("element(0, 0, 5)", x.element(0, 0, 5), 0);
        due("element(0, 0, -1)", x.element(0, 0, -1), 0);
        due("element of a thing", x.element(0, 3, 0), 0);
        due("element of nothing", x.element(0, 4, 0), 0);
        due("element of no place", x.element(0, 6, 0), 0);
        due("element of MIN", x.element(LOW, LOW, LOW), 0);
        due("element of a leaf", x.element(1, 0, 0), 0);
        due("holds(0, 0)", x.holds(0, 0), -11);
        due("holds(0, 2)", x.holds(0, 2), -12);
        due("holds(0, 3)", x.holds(0, 3), 1);
        due("holds(0, 4)", x.holds(0, 4), -1);
        due("holds(0, 6)", x.holds(0, 6), -20);
        due("holds(0, -1)", x.holds(0, -1), -20);
        due("holds of a leaf", x.holds(1, 0), -20);
        due("holds of none", x.holds(2, 0), -20);
        due("holds of MAX", x.holds(HIGH, HIGH), -20);
        for (int what = 11; what <= 17; what++) due("nothing is refused", x.status(what), 0);
    }

    private static void things() {
        DUE.sentence("thing: Of a THING 0 to 7; NONE: no such THING, another what");
        House x = withFarBox();
        int[][] want = {
            {2, 0, 4, 0, -1, 0, 0, 0},
            {0, 0, 0, 5, -1, 0, 64, 0},
            {2, 1, 4, 0, -1, 0, 0, 0},
            {3, 1, 0, 0, 1, 64, 0, 0},
            {1, 0, 2, 0, -1, 0, 0, 0},
        };
        for (int t = 0; t < want.length; t++) {
            for (int what = 0; what < 8; what++) due("thing(" + t + ", " + what + ")", x.thing(t, what), want[t][what]);
            due("thing(" + t + ", 8)", x.thing(t, 8), -1);
            due("thing(" + t + ", -1)", x.thing(t, -1), -1);
        }
        for (int what = 0; what < 8; what++) {
            due("thing(5, " + what + ")", x.thing(5, what), -1);
            due("thing(-1, " + what + ")", x.thing(-1, what), -1);
        }
        due("not refused", x.status(11), 0);
    }

    private static void freedThings() {
        DUE.sentence("thing: NONE: a freed THING (but for 6, 7)");
        House x = withFarBox();
        x.clear(2, 0);
        due("clean(0)", x.clean(0), 1);
        due("clean(1)", x.clean(1), 1);
        for (int what = 0; what < 6; what++) {
            due("freed box " + what, x.thing(4, what), -1);
            due("freed gate " + what, x.thing(3, what), -1);
        }
        due("freed box 6", x.thing(4, 6), 0);
        due("freed box 7", x.thing(4, 7), 0);
        due("freed gate 6", x.thing(3, 6), 0);
        due("freed gate 7", x.thing(3, 7), 0);
        due("freed box 8", x.thing(4, 8), -1);
        due("holds of a freed box", x.holds(4, 0), -20);
        due("numbers are never given again", x.leaf(0, 1, 0), 5);
    }

    private static void gates() {
        DUE.sentence("gate: The GATE of a HOST for a THING; NONE");
        House x = withFarBox();
        due("gate(1, 1)", x.gate(1, 1), 3);
        due("gate(0, 1)", x.gate(0, 1), -1);
        due("gate(2, 1)", x.gate(2, 1), -1);
        due("gate(1, 3), of a gate", x.gate(1, 3), -1);
        due("gate(1, 4)", x.gate(1, 4), -1);
        due("gate(8, 1)", x.gate(8, 1), -1);
        due("gate(-1, -1)", x.gate(-1, -1), -1);
        due("gate(MAX, MIN)", x.gate(HIGH, LOW), -1);
        x.clear(2, 0);
        x.clean(1);
        due("gate(1, 1) that was freed", x.gate(1, 1), -1);
        x.send(1, 2, 1);
        x.deliver(2);
        due("gate(1, 1) made anew", x.gate(1, 1), 5);
    }

    private static void roomForThings() {
        DUE.sentence("300 at most are ever made");
        House x = new House();
        x.root(0, 2);
        x.root(1, 2);
        for (int n = 2; n < 300; n++) due("leaf number " + n, x.leaf(0, 0, n), n);
        due("leaf 300", x.leaf(0, 0, 0), -6);
        due("box 300", x.box(0, 0, 1), -6);
        due("root 300", x.root(0, 1), -6);
        due("root 300 of 0 places", x.root(0, 0), -4);
        due("send(299, 1, 0)", x.send(299, 1, 0), 0);
        due("deliver(0), no room for the gate", x.deliver(0), -6);
        due("letter(0, 1)", x.letter(0, 1), 1);
        due("holds(1, 0)", x.holds(1, 0), -1);
        due("clean(0)", x.clean(0), 297);
        due("freed things make no room", x.leaf(0, 1, 0), -6);
        due("deliver(0) again", x.deliver(0), -6);
        due("status(1)", x.status(1), 3);
        due("status(16)", x.status(16), 6);
    }
}
