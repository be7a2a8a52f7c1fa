/** Promises 21 to 24: what is meant, why, what is not, and whether the weights are right. */
public final class MeaningTest {
    private static final Due DUE = new Due();

    public static void main(String[] args) {
        heldOnes();
        overHosts();
        namesUnderWay();
        namesThatWait();
        shortestRow();
        leastRow();
        leastRowByEarlierThings();
        deadOnes();
        audits();
        auditsOfFreedOnes();
        DUE.end();
    }

    private static void due(String call, long got, long want) {
        DUE.due(call, got, want);
    }

    private static void dueMeant(House x, int t, boolean want) {
        DUE.due("meant(" + t + ")", x.meant(t), want);
    }

    private static void dueRow(House x, int t, int... want) {
        for (int i = 0; i < want.length; i++) due("why(" + t + ", " + i + ")", x.why(t, i), want[i]);
        due("why(" + t + ", " + want.length + ")", x.why(t, want.length), -1);
        due("why(" + t + ", -1)", x.why(t, -1), -1);
        due("why(" + t + ", MAX)", x.why(t, Integer.MAX_VALUE), -1);
        due("why(" + t + ", MIN)", x.why(t, Integer.MIN_VALUE), -1);
        dueMeant(x, t, want.length > 0);
    }

    private static void heldOnes() {
        DUE.sentence("MEANT are all ROOTS; what a PLACE of one that is MEANT holds");
        House x = new House();
        x.root(0, 4);
        x.box(0, 0, 2);
        x.leaf(1, 0, 1);
        dueRow(x, 0, 0);
        dueRow(x, 1, 0, 1);
        dueRow(x, 2, 0, 1, 2);
        dueRow(x, 3);
        dueRow(x, -1);
        x.clear(0, 0);
        dueRow(x, 1);
        dueRow(x, 2);
        x.clean(0);
        dueRow(x, 2);
        due("nothing is refused", x.status(11), 0);
    }

    private static void overHosts() {
        DUE.sentence("MEANT: the THING of a GATE that is MEANT");
        House x = new House();
        x.root(0, 4);
        x.root(1, 4);
        x.box(0, 0, 2);
        x.leaf(2, 0, 1);
        x.send(2, 1, 3);
        x.deliver(0);
        x.clear(0, 0);
        dueRow(x, 3, 1, 4, 2, 3);
        dueRow(x, 4, 1, 4);
        x.clear(1, 3);
        dueRow(x, 4);
        dueRow(x, 2);
        dueRow(x, 3);
    }

    private static void namesUnderWay() {
        DUE.sentence("MEANT: the THING of a NAME that is UNDER WAY");
        House x = new House();
        x.root(0, 4);
        x.root(1, 4);
        x.root(1, 4);
        x.leaf(0, 0, 1);
        x.send(3, 2, 3);
        x.clear(0, 0);
        dueRow(x, 3, 2, 3);
        x.send(0, 1, 0);
        dueRow(x, 0, 0);
        x.deliver(0);
        dueRow(x, 3, 2, 4, 3);
        x.clear(2, 3);
        x.clean(1);
        due("its HOME is no NAME", x.letter(2, 0), 3);
        dueRow(x, 3);
    }

    private static void namesThatWait() {
        DUE.sentence("MEANT: a GATE for which a name WAITS");
        House x = new House();
        x.root(0, 4);
        x.root(1, 4);
        x.root(2, 4);
        x.root(2, 4);
        x.leaf(0, 0, 1);
        x.send(4, 1, 0);
        x.deliver(0);
        for (int l = 1; l <= 6; l++) {
            x.send(5, 2, 0);
            x.deliver(l);
        }
        x.send(5, 3, 1);
        due("one waits", x.status(5), 1);
        x.clear(1, 0);
        dueRow(x, 5, 3, 5);
        dueRow(x, 4, 0, 4);
        x.clear(0, 0);
        dueRow(x, 4, 2, 6, 4);
        x.clear(2, 0);
        dueRow(x, 4, 3, 5, 4);
        dueRow(x, 6);
        x.deliver(7);
        dueRow(x, 4, 3, 5, 4);
        x.deliver(8);
        dueRow(x, 4, 3, 4);
        dueRow(x, 5);
    }

    private static void shortestRow() {
        DUE.sentence("the shortest ROW of MEANING");
        House x = new House();
        x.root(0, 4);
        x.box(0, 0, 4);
        x.box(1, 0, 4);
        x.leaf(2, 0, 1);
        dueRow(x, 3, 0, 1, 2, 3);
        x.box(0, 1, 4);
        x.put(4, 0, 3);
        dueRow(x, 3, 0, 4, 3);
        x.root(0, 1);
        x.put(5, 0, 3);
        dueRow(x, 3, 5, 3);
        x.put(1, 1, 5);
        dueRow(x, 5, 5);
    }

    private static void leastRow() {
        DUE.sentence("of several the one whose first THING that differs has the least number");
        House x = new House();
        x.root(0, 4);
        x.box(0, 2, 4);
        x.box(0, 1, 4);
        x.leaf(2, 0, 1);
        dueRow(x, 3, 0, 2, 3);
        x.put(1, 3, 3);
        dueRow(x, 3, 0, 1, 3);
        x.root(0, 4);
        x.put(4, 0, 1);
        dueRow(x, 3, 0, 1, 3);
    }

    /** The row over 1 and 4 is less than that over 2 and 3, though 3 is less than 4. */
    private static void leastRowByEarlierThings() {
        DUE.sentence("whose first THING that differs");
        House x = new House();
        x.root(0, 4);
        x.box(0, 0, 4);
        x.box(0, 1, 4);
        x.box(2, 0, 4);
        x.box(1, 0, 4);
        x.leaf(3, 0, 1);
        dueRow(x, 5, 0, 2, 3, 5);
        x.put(4, 0, 5);
        dueRow(x, 5, 0, 1, 4, 5);
        x.clear(1, 0);
        dueRow(x, 5, 0, 2, 3, 5);
        dueRow(x, 4);
    }

    private static void deadOnes() {
        DUE.sentence("dead: The i-th THING, by numbers, that is there and not MEANT; NONE");
        House x = new House();
        x.root(0, 4);
        x.root(1, 4);
        for (int n = 0; n < 4; n++) x.leaf(n % 2, n / 2, n);
        x.send(2, 1, 3);
        for (int place = 1; place >= 0; place--) {
            x.clear(0, place);
            x.clear(1, place);
        }
        due("dead(0)", x.dead(0), 3);
        due("dead(1)", x.dead(1), 4);
        due("dead(2)", x.dead(2), 5);
        due("dead(3)", x.dead(3), -1);
        due("dead(-1)", x.dead(-1), -1);
        due("dead(MIN)", x.dead(Integer.MIN_VALUE), -1);
        due("dead(MAX)", x.dead(Integer.MAX_VALUE), -1);
        x.clean(1);
        due("dead(0) after a cleaning", x.dead(0), 4);
        due("dead(1) after a cleaning", x.dead(1), -1);
    }

    private static void dueAudit(House x, int t, int want) {
        due("audit(" + t + ", 0)", x.audit(t, 0), want);
        due("audit(" + t + ", 1)", x.audit(t, 1), want);
    }

    private static void audits() {
        DUE.sentence("audit: the sum of the WEIGHTS of all GATES for it and of LETTERS UNDER WAY with it");
        House x = new House();
        x.root(0, 4);
        x.root(1, 4);
        x.root(2, 4);
        x.leaf(0, 0, 1);
        dueAudit(x, 3, 0);
        x.send(3, 1, 0);
        dueAudit(x, 3, 64);
        x.deliver(0);
        x.send(4, 2, 0);
        dueAudit(x, 3, 64);
        x.send(4, 0, 1);
        x.deliver(1);
        dueAudit(x, 3, 64);
        x.deliver(2);
        dueAudit(x, 3, 48);
        for (int i = 0; i < 4; i++) x.send(4, 2, 2);
        x.send(4, 2, 3);
        due("a MORE", x.letter(7, 0), 1);
        dueAudit(x, 3, 48);
        x.deliver(7);
        due("a GIVE", x.letter(8, 0), 2);
        dueAudit(x, 3, 112);
        x.doubt(3);
        dueAudit(x, 3, 112);
        due("audit of a gate 0", x.audit(4, 0), -1);
        due("audit of a gate 1", x.audit(4, 1), -1);
        for (int what : new int[] {-1, 2, 3, Integer.MAX_VALUE, Integer.MIN_VALUE}) due("audit(3, " + what + ")", x.audit(3, what), -1);
        due("audit(-1, 0)", x.audit(-1, 0), -1);
        due("audit(99, 1)", x.audit(99, 1), -1);
    }

    private static void auditsOfFreedOnes() {
        DUE.sentence("audit: Of a THING that is no GATE (freed, too)");
        House x = new House();
        x.root(0, 4);
        x.root(1, 4);
        x.box(0, 0, 1);
        x.send(2, 1, 0);
        x.deliver(0);
        x.box(1, 1, 1);
        x.put(4, 0, 3);
        x.send(4, 0, 1);
        x.deliver(1);
        x.put(2, 0, 5);
        for (int place = 0; place < 2; place++) {
            x.clear(0, place);
            x.clear(1, place);
        }
        x.doubt(2);
        for (int l = 2; l < 8; l++) x.deliver(l);
        due("broken", x.thing(2, 7), 1);
        due("clean(0)", x.clean(0), 2);
        due("there no more", x.thing(2, 0), -1);
        dueAudit(x, 2, 64);
        dueAudit(x, 4, 64);
        due("audit of a freed gate", x.audit(5, 0), -1);
        x.deliver(8);
        dueAudit(x, 4, 0);
        x.clean(1);
        dueAudit(x, 2, 64);
        x.deliver(9);
        dueAudit(x, 2, 0);
    }
}
