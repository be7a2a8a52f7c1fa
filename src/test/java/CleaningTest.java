/** Promises 17 and 18: cleaning a host, and what was freed. */
public final class CleaningTest {
    private static final Due DUE = new Due();

    public static void main(String[] args) {
        onlyWhatIsNotKept();
        ringsOfOneHost();
        exitsKeep();
        gatesGoHome();
        refusals();
        noRoomForHomes();
        DUE.end();
    }

    private static void due(String call, long got, long want) {
        DUE.due(call, got, want);
    }

    private static void dueFreed(House x, int... want) {
        for (int i = 0; i < want.length; i++) due("freed(" + i + ")", x.freed(i), want[i]);
        due("freed(" + want.length + ")", x.freed(want.length), -1);
        due("freed(-1)", x.freed(-1), -1);
        due("freed(MAX)", x.freed(Integer.MAX_VALUE), -1);
    }

    private static void onlyWhatIsNotKept() {
        DUE.sentence("KEPT are those to which its ROOTS LEAD; its other THINGS are freed: they are no more, their ROWS neither");
        House x = new House();
        x.root(3, 4);
        x.box(0, 0, 2);
        x.leaf(1, 0, 1);
        x.leaf(0, 1, 2);
        x.box(0, 2, 1);
        x.row(4, 0, 2, 3);
        x.set(4, 0, 0, 5);
        due("nothing to free", x.clean(3), 0);
        dueFreed(x);
        x.put(0, 3, 2);
        x.clear(0, 0);
        x.clear(0, 2);
        due("another host", x.clean(2), 0);
        due("clean(3)", x.clean(3), 2);
        dueFreed(x, 1, 4);
        due("still held", x.thing(2, 0), 0);
        due("no row any more", x.element(4, 0, 0), 0);
        due("none is there", x.thing(1, 0), -1);
        due("no letters of it", x.status(2), 0);
        due("clean(3) again", x.clean(3), 0);
        dueFreed(x);
    }

    private static void ringsOfOneHost() {
        DUE.sentence("Its other THINGS are freed: rings, too");
        House x = new House();
        x.root(0, 2);
        x.box(0, 0, 2);
        x.box(1, 0, 2);
        x.put(2, 0, 1);
        x.put(2, 1, 2);
        x.put(1, 1, 0);
        x.clear(0, 0);
        due("a ring, though it holds a root", x.clean(0), 2);
        dueFreed(x, 1, 2);
        due("the root stays", x.thing(0, 0), 2);
    }

    private static void exitsKeep() {
        DUE.sentence("KEPT are those to which its THINGS LEAD whose EXIT is above 0");
        House x = new House();
        x.root(0, 2);
        x.root(1, 2);
        x.box(0, 0, 2);
        x.leaf(2, 0, 1);
        x.send(2, 1, 0);
        x.clear(0, 0);
        due("kept by its exit", x.clean(0), 0);
        x.deliver(0);
        x.clear(1, 0);
        due("its gate", x.clean(1), 1);
        dueFreed(x, 4);
        due("kept until the HOME is there", x.clean(0), 0);
        due("a HOME", x.letter(1, 0), 3);
        x.deliver(1);
        due("exit", x.thing(2, 6), 0);
        due("now freed", x.clean(0), 2);
        dueFreed(x, 2, 3);
        due("audit of a freed one", x.audit(2, 0), 0);
    }

    private static void gatesGoHome() {
        DUE.sentence("of a GATE a HOME with its THING and WEIGHT goes to the THING's HOST, by their numbers");
        House x = new House();
        x.root(0, 4);
        x.root(5, 4);
        for (int n = 0; n < 3; n++) {
            x.leaf(0, n, n);
            x.send(2 + n, 1, n);
        }
        for (int l = 2; l >= 0; l--) x.deliver(l);
        x.put(1, 3, 6);
        for (int n = 0; n < 3; n++) x.clear(1, n);
        due("clean(5)", x.clean(5), 2);
        dueFreed(x, 5, 7);
        due("first HOME for leaf 4", x.letter(3, 4), 4);
        due("second HOME for leaf 2", x.letter(4, 4), 2);
        due("from", x.letter(3, 3), 5);
        due("to", x.letter(3, 2), 0);
        due("weight", x.letter(3, 5), 64);
        due("gate(5, 4)", x.gate(5, 4), -1);
        due("letters", x.status(2), 5);
    }

    private static void refusals() {
        DUE.sentence("clean: -1; freed: that was not refused");
        House x = new House();
        x.root(0, 2);
        x.leaf(0, 0, 0);
        x.clear(0, 0);
        x.clean(0);
        due("clean(-1)", x.clean(-1), -1);
        due("clean(8)", x.clean(8), -1);
        due("clean(MIN)", x.clean(Integer.MIN_VALUE), -1);
        dueFreed(x, 1);
        due("status(11)", x.status(11), 3);
        due("clean(7), an empty host", x.clean(7), 0);
        dueFreed(x);
    }

    /** Two gates must go home where 599 letters have been made. */
    private static void noRoomForHomes() {
        DUE.sentence("clean: -6 LETTERS; freed: that was not refused");
        House x = new House();
        x.root(0, 8);
        x.root(1, 8);
        for (int n = 0; n < 2; n++) {
            int leaf = x.leaf(0, n, n);
            x.send(leaf, 1, n);
            x.deliver(n);
        }
        x.leaf(1, 3, 0);
        x.clear(1, 3);
        due("a leaf", x.clean(1), 1);
        ManyLetters.fill(x, 2, 598);
        x.clear(1, 0);
        x.clear(1, 1);
        due("a letter under way", x.send(2, 1, 7), 598);
        int counts = x.status(7);
        due("clean(1), no room", x.clean(1), -6);
        dueFreed(x, 6);
        due("gate(1, 2)", x.gate(1, 2), 3);
        due("gate(1, 4)", x.gate(1, 4), 5);
        due("letters", x.status(2), 599);
        due("counts", x.status(7), counts);
        due("refusals", x.status(16), 1);
        x.deliver(598);
        due("clean(1), room for one", x.clean(1), 1);
        dueFreed(x, 5);
        due("letters then", x.status(2), 600);
        due("a HOME", x.letter(599, 0), 3);
    }
}
