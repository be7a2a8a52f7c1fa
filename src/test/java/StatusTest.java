/** Promise 25: how many there are, what each call counts at its host, and the refusals. */
public final class StatusTest {
    private static final Due DUE = new Due();

    public static void main(String[] args) {
        sizes();
        countsOfEachCall();
        countsOfLetters();
        countsOfCleaningAndWalks();
        refusals();
        otherWhats();
        DUE.end();
    }

    private static void due(String call, long got, long want) {
        DUE.due(call, got, want);
    }

    private static void dueStatus(House x, int... want) {
        for (int what = 0; what < want.length; what++) due("status(" + what + ")", x.status(what), want[what]);
    }

    private static void sizes() {
        DUE.sentence("status: 0 THINGS ever made, 1 that are there, 2 LETTERS ever, 3 UNDER WAY, 4 WALKS, 5 names that WAIT, 6 LETTERS that were delivered again, 7 COUNTS");
        House x = new House();
        x.root(0, 4);
        x.root(1, 4);
        x.box(0, 0, 1);
        dueStatus(x, 3, 3, 0, 0, 0, 0, 0, 3);
        x.send(2, 1, 0);
        dueStatus(x, 3, 3, 1, 1, 0, 0, 0, 4);
        x.deliver(0);
        dueStatus(x, 4, 4, 1, 0, 0, 0, 0, 5);
        x.deliver(0);
        dueStatus(x, 4, 4, 1, 0, 0, 0, 1, 5);
        x.doubt(2);
        dueStatus(x, 4, 4, 2, 1, 1, 0, 1, 5);
        x.clear(1, 0);
        x.clean(1);
        dueStatus(x, 4, 3, 3, 2, 1, 0, 1, 7);
    }

    /** Each kind of call counts once, though it makes a thing and changes a place. */
    private static void countsOfEachCall() {
        DUE.sentence("COUNT, 1 more with each call: makes a THING there, changes what a PLACE there holds (a ROW's elements, too)");
        House x = new House();
        int counts = 0;
        x.root(0, 4);
        due("root counts", x.status(7), ++counts);
        x.leaf(0, 0, 1);
        due("leaf counts once", x.status(7), ++counts);
        x.box(0, 1, 1);
        due("box counts once", x.status(7), ++counts);
        x.put(2, 0, 1);
        due("put counts", x.status(7), ++counts);
        x.row(0, 2, 0, 3);
        due("row counts", x.status(7), ++counts);
        x.set(0, 2, 0, 5);
        due("set counts", x.status(7), ++counts);
        x.copy(0, 2, 2, 0, 2);
        due("copy counts", x.status(7), ++counts);
        x.clear(0, 2);
        due("clear counts", x.status(7), ++counts);
        x.clear(0, 2);
        x.leaf(9, 0, 0);
        x.holds(0, 0);
        x.why(1, 0);
        due("refusals and questions do not", x.status(7), counts);
    }

    private static void countsOfLetters() {
        DUE.sentence("COUNT: SENDS a THING of it, delivers a NAME, MORE, GIVE, HOME to it");
        House x = new House();
        for (int host = 0; host < 3; host++) x.root(host, 4);
        x.leaf(0, 0, 1);
        int counts = x.status(7);
        x.send(3, 1, 0);
        due("send counts", x.status(7), ++counts);
        x.deliver(0);
        due("a NAME counts once, though it makes a gate", x.status(7), ++counts);
        x.deliver(0);
        due("delivered again it does not", x.status(7), counts);
        for (int l = 1; l <= 6; l++) x.send(4, 2, 1);
        counts += 6;
        due("send of a gate counts", x.status(7), counts);
        x.send(4, 2, 2);
        due("a name that waits counts", x.status(7), ++counts);
        x.deliver(7);
        due("a MORE counts", x.status(7), ++counts);
        x.deliver(8);
        due("a GIVE counts once, though it sends", x.status(7), ++counts);
        due("it did", x.letter(9, 0), 0);
    }

    private static void countsOfCleaningAndWalks() {
        DUE.sentence("COUNT: a cleaning that frees something; a WALK that breaks an EXIT there");
        House x = new House();
        x.root(0, 4);
        x.root(1, 4);
        x.leaf(0, 0, 1);
        x.leaf(0, 1, 1);
        x.send(2, 1, 0);
        x.deliver(0);
        x.clear(1, 0);
        x.clear(0, 0);
        x.clear(0, 1);
        int counts = x.status(7);
        x.clean(2);
        x.clean(0);
        due("a cleaning that frees counts once", x.status(7), ++counts);
        x.clean(0);
        due("one that frees nothing does not", x.status(7), counts);
        x.clean(1);
        due("a cleaning that frees a gate", x.status(7), ++counts);
        x.doubt(2);
        x.deliver(2);
        x.deliver(3);
        due("walk(0, 0)", x.walk(0, 0), 1);
        due("a walk that breaks nothing does not", x.status(7), counts);
        x.deliver(1);
        due("a HOME counts", x.status(7), ++counts);
        due("a walk that breaks an exit counts", countsOfABreakingWalk(), 1);
    }

    /** A ring of box 2 of host 0 and box 3 of host 1, held by nothing else. */
    private static int countsOfABreakingWalk() {
        House x = new House();
        x.root(0, 4);
        x.root(1, 4);
        x.box(0, 0, 1);
        x.box(1, 0, 1);
        x.send(2, 1, 1);
        x.send(3, 0, 1);
        x.deliver(0);
        x.deliver(1);
        x.put(2, 0, x.holds(0, 1));
        x.put(3, 0, x.holds(1, 1));
        for (int place = 0; place < 2; place++) {
            x.clear(0, place);
            x.clear(1, place);
        }
        int counts = x.status(7);
        x.doubt(2);
        for (int l = 2; l < 8; l++) x.deliver(l);
        due("it is broken", x.walk(0, 0), 3);
        return x.status(7) - counts;
    }

    private static void refusals() {
        DUE.sentence("status: 11 to 17: REFUSALS -1 to -7");
        House x = new House();
        x.root(0, 1);
        x.leaf(0, 0, 0);
        x.deliver(5);
        x.leaf(1, 0, 0);
        x.leaf(1, 0, 0);
        for (int i = 0; i < 3; i++) x.leaf(0, 1, 0);
        for (int i = 0; i < 4; i++) x.box(0, 0, 0);
        for (int i = 0; i < 5; i++) x.send(0, 0, 0);
        for (int i = 0; i < 6; i++) x.root(0, 9);
        x.clear(0, 0);
        for (int i = 0; i < 7; i++) x.clear(0, 0);
        for (int code = 1; code <= 7; code++) due("refusals -" + code, x.status(10 + code), code);
        x.status(99);
        x.thing(99, 0);
        x.letter(99, 0);
        x.walk(99, 0);
        x.gate(99, 0);
        x.freed(99);
        x.why(99, 0);
        x.dead(99);
        x.audit(99, 0);
        x.meant(99);
        for (int code = 1; code <= 7; code++) due("no answer NONE is a refusal", x.status(10 + code), code);
    }

    private static void otherWhats() {
        DUE.sentence("status: NONE for another what");
        House x = new House();
        int[] others = {-1, 8, 9, 10, 18, 19, Integer.MAX_VALUE, Integer.MIN_VALUE, Integer.MIN_VALUE + 11};
        for (int what : others) due("status(" + what + ")", x.status(what), -1);
    }
}
