/** Promises 19 and 20: walks, how they go and how they end. */
public final class WalksTest {
    private static final int MEANT = 1;
    private static final int CHANGED = 2;
    private static final int BROKEN = 3;
    private static final Due DUE = new Due();

    public static void main(String[] args) {
        doubtRefused();
        roomForWalks();
        aRingIsBroken();
        endedAheadOfALateBack();
        stepAfterTheEnd();
        aBrokenRingIsFreed();
        stepForOneThatIsGone();
        meantAsItIsRooted();
        meantAsItsGateIsRooted();
        meantAsMoreIsOut();
        meantAsANameWaits();
        meantAsOneHoldsThatWasNotPassed();
        meantAsOneHoldsThatIsAlive();
        holdersNeedAnExit();
        changedOnlyByCounts();
        notedOnceForEachHost();
        gatesMetByNumbers();
        twoWalksAtOnce();
        DUE.end();
    }

    private static void due(String call, long got, long want) {
        DUE.due(call, got, want);
    }

    private static void dueWalk(House x, int w, int... want) {
        for (int what = 0; what < want.length; what++) due("walk(" + w + ", " + what + ")", x.walk(w, what), want[what]);
        due("walk(" + w + ", 6)", x.walk(w, 6), -1);
        due("walk(" + w + ", -1)", x.walk(w, -1), -1);
    }

    /** Roots 0, 1 and 2 of hosts 0, 1 and 2; box 3 of host 0 with gate 6 for box 4 of host 1, that has gate 5 for box 3. Both are in place 0 of their roots. */
    private static House ring() {
        return House.after(Scenes::heldRing);
    }

    private static House ringAlone() {
        return House.after(Scenes::ring);
    }

    /** Delivers each letter from one on, until there are no more, and answers how the walk ended. */
    private static int walkOn(House x, int walk, int firstLetter) {
        for (int l = firstLetter; l < x.status(2); l++) {
            if (x.letter(l, 0) >= 4) x.deliver(l);
        }
        return x.walk(walk, 0);
    }

    private static int doubtAndWalk(House x, int t) {
        int firstLetter = x.status(2);
        return walkOn(x, x.doubt(t), firstLetter);
    }

    private static void doubtRefused() {
        DUE.sentence("doubt: its refusals; walk: NONE: no such WALK");
        House x = ringAlone();
        x.leaf(0, 0, 0);
        due("doubt(-1)", x.doubt(-1), -1);
        due("doubt(8)", x.doubt(8), -1);
        due("doubt(MAX)", x.doubt(Integer.MAX_VALUE), -1);
        due("doubt of a gate", x.doubt(5), -2);
        due("doubt of a leaf with exit 0", x.doubt(7), -5);
        due("doubt of a root with exit 0", x.doubt(0), -5);
        due("walks", x.status(4), 0);
        due("walk(0, 0)", x.walk(0, 0), -1);
        due("walk(-1, 0)", x.walk(-1, 0), -1);
        due("walk(MAX, MIN)", x.walk(Integer.MAX_VALUE, Integer.MIN_VALUE), -1);
        doubtAndWalk(x, 3);
        due("doubt of a broken one", x.doubt(3), -5);
        x.clean(0);
        due("doubt of a freed one", x.doubt(3), -1);
        due("walk(1, 0)", x.walk(1, 0), -1);
    }

    private static void roomForWalks() {
        DUE.sentence("20 at most are ever begun");
        House x = ring();
        for (int w = 0; w < 20; w++) due("doubt(3)", x.doubt(3), w);
        due("a 21st", x.doubt(3), -6);
        due("status(4)", x.status(4), 20);
        due("letters", x.status(2), 22);
        due("walk(19, 0)", x.walk(19, 0), 0);
        due("walk(20, 0)", x.walk(20, 0), -1);
        due("refusals", x.status(16), 1);
    }

    private static void aRingIsBroken() {
        DUE.sentence("else BROKEN (3): the EXIT of x is BROKEN; walk: Of a WALK 0 to 5");
        House x = ringAlone();
        int counts = x.status(7);
        due("doubt(3)", x.doubt(3), 0);
        dueWalk(x, 0, 0, 3, 1, 0, 0, 0);
        x.deliver(2);
        dueWalk(x, 0, 0, 3, 1, 0, 1, 1);
        int[] step = {4, 1, 1, 0, 4, 0, -1, -1, 0, 0};
        int[] back = {5, 1, 0, 0, 3, 0, -1, -1, 0, 1};
        for (int what = 0; what < 10; what++) {
            due("STEP " + what, x.letter(3, what), step[what]);
            due("BACK " + what, x.letter(4, what), back[what]);
        }
        x.deliver(4);
        dueWalk(x, 0, 0, 3, 2, 1, 1, 1);
        x.deliver(3);
        dueWalk(x, 0, 0, 3, 2, 1, 2, 2);
        x.deliver(5);
        due("a thing passed before tells 0", x.letter(7, 9), 0);
        due("letters", x.status(2), 8);
        due("counts as they were", x.status(7), counts);
        x.deliver(6);
        dueWalk(x, 0, 0, 3, 3, 2, 2, 2);
        due("deliver(6) again", x.deliver(6), 0);
        dueWalk(x, 0, 0, 3, 3, 2, 2, 2);
        x.deliver(7);
        dueWalk(x, 0, BROKEN, 3, 3, 3, 2, 2);
    }

    /** A BACK may come ahead of the one that tells of its STEP: then as many are BACK as STEPS are told of before all went. */
    private static void endedAheadOfALateBack() {
        DUE.sentence("When as many are BACK as STEPS went (1, and those of which BACKS told), the WALK ends");
        House x = ringAlone();
        x.doubt(3);
        for (int l : new int[] {2, 4, 3, 5}) x.deliver(l);
        dueWalk(x, 0, 0, 3, 2, 1, 2, 2);
        x.deliver(7);
        dueWalk(x, 0, BROKEN, 3, 2, 2, 2, 2);
        int counts = x.status(7);
        due("the late BACK", x.deliver(6), 1);
        dueWalk(x, 0, BROKEN, 3, 2, 2, 2, 2);
        due("counts as they were", x.status(7), counts);
    }

    /** Gates for 3 and for leaf 7 are in 4: the walk from 3 ends with no STEP for the leaf delivered. */
    private static void stepAfterTheEnd() {
        DUE.sentence("A STEP for y, delivered while the WALK is under way");
        House x = ring();
        x.leaf(0, 3, 1);
        x.send(7, 1, 2);
        x.deliver(2);
        x.put(4, 1, 8);
        x.clear(1, 2);
        x.clear(0, 0);
        x.clear(1, 0);
        x.doubt(3);
        for (int l : new int[] {3, 5, 4}) x.deliver(l);
        due("a STEP for 3", x.letter(6, 4), 3);
        due("a STEP for 7", x.letter(7, 4), 7);
        due("a BACK that tells 2", x.letter(8, 9), 2);
        x.deliver(6);
        x.deliver(9);
        dueWalk(x, 0, BROKEN, 3, 2, 2, 2, 3);
        due("the STEP for 7", x.deliver(7), 1);
        due("no BACK of it", x.status(2), 10);
        due("nothing passed", x.walk(0, 4), 2);
        due("again", x.deliver(7), 0);
        due("7 is not broken", x.thing(7, 7), 0);
    }

    private static void aBrokenRingIsFreed() {
        DUE.sentence("an EXIT of 0 is BROKEN no more");
        House x = ringAlone();
        int counts = x.status(7);
        due("it is broken", doubtAndWalk(x, 3), BROKEN);
        dueWalk(x, 0, BROKEN, 3, 3, 3, 2, 2);
        due("one count more", x.status(7), counts + 1);
        due("thing(3, 7)", x.thing(3, 7), 1);
        due("thing(4, 7)", x.thing(4, 7), 0);
        due("its exit stays", x.thing(3, 6), 64);
        due("clean(1)", x.clean(1), 0);
        due("clean(0)", x.clean(0), 2);
        due("a freed one's exit", x.thing(3, 6), 64);
        due("a freed one's exit is broken", x.thing(3, 7), 1);
        due("a gate for a freed one", x.gate(1, 3), 5);
        due("what it is for", x.thing(5, 4), 3);
        x.deliver(8);
        due("clean(1) then", x.clean(1), 2);
        due("a HOME to the freed one's host", x.letter(9, 2), 0);
        x.deliver(9);
        due("exit", x.thing(3, 6), 0);
        due("broken no more", x.thing(3, 7), 0);
        due("things there", x.status(1), 3);
        due("under way", x.status(3), 0);
    }

    private static void stepForOneThatIsGone() {
        DUE.sentence("0 if y was PASSED before, or is not there any more");
        House x = ringAlone();
        doubtAndWalk(x, 3);
        x.clean(0);
        due("a HOME is under way", x.letter(8, 0), 3);
        due("doubt(4)", x.doubt(4), 1);
        x.deliver(9);
        due("a STEP for 3", x.letter(10, 4), 3);
        x.deliver(10);
        due("its BACK tells 0", x.letter(12, 9), 0);
        due("its BACK is of 3", x.letter(12, 4), 3);
        x.deliver(11);
        due("under way", x.walk(1, 0), 0);
        x.deliver(12);
        dueWalk(x, 1, MEANT, 4, 2, 2, 1, 1);
    }

    private static void meantAsItIsRooted() {
        DUE.sentence("ALIVE: which is ROOTED, as noted");
        House x = ring();
        x.clear(1, 0);
        due("rooted x", doubtAndWalk(x, 3), MEANT);
        due("not broken", x.thing(3, 7), 0);
        due("its other end", doubtAndWalk(x, 4), MEANT);
        due("clean(0)", x.clean(0), 0);
        due("clean(1)", x.clean(1), 0);
    }

    private static void meantAsItsGateIsRooted() {
        DUE.sentence("ALIVE: or such a GATE");
        House x = ringAlone();
        House y = ring();
        y.clear(0, 0);
        due("a rooted gate", doubtAndWalk(y, 3), MEANT);
        due("none", doubtAndWalk(x, 4), BROKEN);
    }

    private static void meantAsMoreIsOut() {
        DUE.sentence("ALIVE: whose EXIT, as noted, is above the sum of the WEIGHTS noted");
        House x = ring();
        x.send(3, 2, 0);
        x.clear(0, 0);
        x.clear(1, 0);
        due("a NAME under way", doubtAndWalk(x, 3), MEANT);
        x.deliver(2);
        due("a gate at a host not walked", doubtAndWalk(x, 3), MEANT);
        x.clear(2, 0);
        x.clean(2);
        due("a HOME under way", doubtAndWalk(x, 3), MEANT);
        x.deliver(homeOf(x));
        due("all is home", doubtAndWalk(x, 3), BROKEN);
    }

    private static int homeOf(House x) {
        for (int l = 0; l < x.status(2); l++) {
            if (x.letter(l, 0) == 3 && x.letter(l, 1) == 1) return l;
        }
        return -1;
    }

    private static void meantAsANameWaits() {
        DUE.sentence("ROOTED: is a GATE for which a name WAITS");
        House x = ring();
        for (int l = 2; l < 8; l++) x.send(5, 2, 0);
        for (int l = 2; l < 8; l++) x.deliver(l);
        x.clear(2, 0);
        x.clean(2);
        x.deliver(8);
        due("weight 1", x.thing(5, 5), 1);
        due("exit 1", x.thing(3, 6), 1);
        x.send(5, 2, 0);
        x.clear(0, 0);
        x.clear(1, 0);
        due("a name waits", x.status(5), 1);
        due("its gate is rooted", doubtAndWalk(x, 3), MEANT);
        due("kept", x.clean(1), 0);
    }

    /** Box 7 of host 1 holds the gate for 3, and is out itself. */
    private static House withAnotherHolder() {
        House x = ring();
        x.box(1, 2, 1);
        x.put(7, 0, 5);
        x.send(7, 2, 0);
        x.deliver(2);
        x.clear(1, 2);
        x.clear(0, 0);
        x.clear(1, 0);
        return x;
    }

    private static void meantAsOneHoldsThatWasNotPassed() {
        DUE.sentence("ALIVE: HELD by one that was not PASSED");
        House x = withAnotherHolder();
        due("held by 7", doubtAndWalk(x, 3), MEANT);
        x.clear(2, 0);
        due("7 is not meant, yet was not passed", doubtAndWalk(x, 3), MEANT);
    }

    private static void meantAsOneHoldsThatIsAlive() {
        DUE.sentence("ALIVE: HELD by one that is ALIVE");
        House x = ring();
        x.send(4, 2, 0);
        x.clear(0, 0);
        x.clear(1, 0);
        due("4 is out, and holds the gate for 3", doubtAndWalk(x, 3), MEANT);
        dueWalk(x, 0, MEANT, 3, 3, 3, 2, 2);
    }

    private static void holdersNeedAnExit() {
        DUE.sentence("HELD: that have an EXIT above 0");
        House x = withAnotherHolder();
        x.clear(2, 0);
        x.clean(2);
        due("7, with its HOME under way", doubtAndWalk(x, 7), MEANT);
        x.deliver(3);
        due("7 has no exit now", x.thing(7, 6), 0);
        due("so it holds nothing", doubtAndWalk(x, 3), BROKEN);
        due("4 is held by none", doubtAndWalk(x, 4), BROKEN);
        due("clean(1)", x.clean(1), 3);
    }

    /** What is done while the walk from 3 is half way: host 0 noted, host 1 not. */
    private static int endingAfter(int deed) {
        House x = ringAlone();
        x.row(0, 5, 0, 4);
        x.leaf(0, 6, 1);
        x.clear(0, 6);
        x.send(1, 0, 4);
        x.doubt(3);
        x.deliver(3);
        doDeed(x, deed);
        return walkOn(x, 0, 4);
    }

    private static void doDeed(House x, int deed) {
        switch (deed) {
            case 0: x.root(0, 1); break;
            case 1: x.leaf(0, 0, 1); break;
            case 2: x.box(0, 0, 1); break;
            case 3: x.put(0, 0, 0); break;
            case 4: x.clear(0, 5); break;
            case 5: x.row(0, 0, 0, 1); break;
            case 6: x.set(0, 5, 0, 1); break;
            case 7: x.copy(0, 5, 5, 1, 2); break;
            case 8: x.send(0, 1, 3); break;
            case 9: x.deliver(2); break;
            case 10: x.clean(0); break;
            case 11: x.leaf(1, 0, 1); break;
            case 12: x.leaf(2, 0, 1); break;
            case 13: x.clean(1); break;
            case 14: x.doubt(3); break;
            case 15: x.leaf(0, 9, 1); break;
            case 16: x.deliver(0); break;
            default: break;
        }
    }

    private static void changedOnlyByCounts() {
        DUE.sentence("CHANGED (2), if the COUNT of a HOST is not as noted");
        for (int deed = 0; deed <= 10; deed++) due("ending after deed " + deed, endingAfter(deed), CHANGED);
        for (int deed = 11; deed <= 17; deed++) due("ending after deed " + deed, endingAfter(deed), BROKEN);
        House x = ringAlone();
        x.doubt(3);
        x.leaf(0, 0, 1);
        due("changed ahead of the first STEP", walkOn(x, 0, 2), BROKEN);
        House y = ringAlone();
        y.doubt(3);
        for (int l = 2; l < 7; l++) y.deliver(l);
        y.leaf(1, 0, 1);
        due("under way", y.walk(0, 0), 0);
        y.deliver(7);
        due("changed ahead of the last BACK", y.walk(0, 0), CHANGED);
        due("not broken", y.thing(3, 7), 0);
    }

    /** Host 0 is changed between the passing of 3 and that of 7, both of host 0. */
    private static void notedOnceForEachHost() {
        DUE.sentence("noted are the COUNT of its HOST (once for each HOST)");
        House x = ring();
        x.box(0, 2, 1);
        x.send(7, 1, 2);
        x.deliver(2);
        x.put(4, 1, 8);
        x.clear(1, 2);
        x.clear(0, 2);
        x.clear(0, 0);
        x.clear(1, 0);
        x.doubt(3);
        x.deliver(3);
        x.leaf(0, 3, 1);
        due("changed", walkOn(x, 0, 4), CHANGED);
        due("passed", x.walk(0, 4), 3);
        due("unchanged", doubtAndWalk(x, 3), BROKEN);
    }

    private static void gatesMetByNumbers() {
        DUE.sentence("each GATE to which y LEADS is MET, by numbers, and a STEP for its THING goes to that one's HOST");
        House x = new House();
        x.root(0, 8);
        x.root(1, 8);
        x.box(0, 0, 4);
        for (int n = 0; n < 3; n++) {
            int leaf = x.leaf(1, n, n);
            x.send(leaf, 0, 1 + n);
            x.deliver(n);
        }
        x.box(2, 0, 2);
        x.put(9, 0, 8);
        x.put(2, 1, 6);
        x.put(9, 1, 6);
        x.put(2, 2, 4);
        x.send(2, 1, 5);
        x.doubt(2);
        x.deliver(4);
        int[] met = {3, 5, 7};
        for (int i = 0; i < 3; i++) {
            due("a STEP", x.letter(5 + i, 0), 4);
            due("its thing", x.letter(5 + i, 4), met[i]);
        }
        due("then the BACK", x.letter(8, 0), 5);
        due("it tells 3", x.letter(8, 9), 3);
        due("ending", walkOn(x, 0, 5), MEANT);
        dueWalk(x, 0, MEANT, 2, 4, 4, 4, 3);
    }

    private static void twoWalksAtOnce() {
        DUE.sentence("a WALK that breaks an EXIT there");
        House x = ringAlone();
        x.doubt(3);
        x.doubt(4);
        due("the first", walkOn(x, 0, 2), BROKEN);
        due("the second, changed by the first", x.walk(1, 0), CHANGED);
        due("4 is not broken", x.thing(4, 7), 0);
    }
}
