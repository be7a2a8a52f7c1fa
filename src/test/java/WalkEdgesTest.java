/** Sentences of the document on walks and counts that name an edge: each has a test of its own. */
public final class WalkEdgesTest {
    private static final int LOW = Integer.MIN_VALUE;
    private static final int HIGH = Integer.MAX_VALUE;
    private static final int MEANT = 1;
    private static final int CHANGED = 2;
    private static final int BROKEN = 3;
    private static final Due DUE = new Due();

    public static void main(String[] args) {
        countsOfThings();
        countsOfLetters();
        countsOfCleanings();
        countsOfWalks();
        countsOfNothing();
        countsOfOtherHosts();
        begunAtAnExitOfOne();
        begunFirstStep();
        toldOfAWalk();
        heldWithoutItself();
        heldByOneWithAnExit();
        heldByOneThatIsNotBroken();
        heldByWhatWasNotPassed();
        heldByOneThatLeads();
        rootedByAnyRoot();
        rootedWhileANameWaits();
        passedOnce();
        metOnce();
        stepForAFreedOne();
        freedAheadOfTheFirstStep();
        exitGoneAheadOfTheFirstStep();
        endsAtTheLastBack();
        lettersAfterTheEnd();
        changedGoesAhead();
        unchangedUntilNoted();
        aliveAboveTheSum();
        sumOfTwoGates();
        aliveByOneThatIsAlive();
        brokenAndAlive();
        DUE.end();
    }

    private static void due(String call, long got, long want) {
        DUE.due(call, got, want);
    }

    /** Delivers STEPS and BACKS from a letter on, in order, until there are no more; answers how the walk ended. */
    private static int walkOn(House x, int walk, int firstLetter) {
        int kind = x.letter(firstLetter, 0);
        for (int l = firstLetter; kind != FarHold.NONE; l++) {
            if (kind >= 4) x.deliver(l);
            kind = x.letter(l + 1, 0);
        }
        return x.walk(walk, 0);
    }

    private static int walkFrom(House x, int t) {
        int letters = x.status(2);
        return walkOn(x, x.doubt(t), letters);
    }

    // ---- COUNTS

    /**
     * What a call counts in all, and whether at host 0: a walk from BOX, that
     * is rooted, has noted the COUNT of host 0 alone, and ends behind the call.
     */
    private static void counts(String name, int inAll, boolean atHost0, Scene ahead, Scene call) {
        House x = House.after(Scenes::corner);
        ahead.build(x);
        int step = x.status(2);
        int walk = x.doubt(Scenes.BOX);
        x.deliver(step);
        int count = x.status(7);
        call.build(x);
        due(name + " counts", x.status(7) - count, inAll);
        x.deliver(step + 1);
        due(name + " at host 0", x.walk(walk, 0), atHost0 ? CHANGED : MEANT);
    }

    private static void countsHere(String name, Scene call) {
        counts(name, 1, true, Scenes::nothing, call);
    }

    private static void countsOfThings() {
        DUE.sentence("COUNT, 1 more with each call that does something at it: makes a THING there, changes what a PLACE there holds (a ROW's elements, too)");
        int four = Scenes.OF_FOUR_SHORTS;
        countsHere("root", x -> x.root(0, 1));
        countsHere("leaf", x -> x.leaf(Scenes.ROOT0, 3, 1));
        countsHere("box", x -> x.box(Scenes.ROOT0, 3, 1));
        countsHere("put", x -> x.put(Scenes.ROOT0, 3, Scenes.LEAF));
        countsHere("clear", x -> x.clear(Scenes.BOX, Scenes.OF_LEAF));
        countsHere("clear of a ROW", x -> x.clear(Scenes.BOX, four));
        countsHere("row", x -> x.row(Scenes.BOX, Scenes.OF_NOTHING, 0, 0));
        countsHere("set", x -> x.set(Scenes.BOX, four, 0, 99));
        countsHere("copy", x -> x.copy(Scenes.BOX, Scenes.OF_THREE_SHORTS, four, 0, 1));
    }

    private static void countsOfLetters() {
        DUE.sentence("COUNT: SENDS a THING of it, delivers a NAME, MORE, GIVE, HOME to it");
        countsHere("send", x -> x.send(Scenes.LEAF, Scenes.ROOT1, 2));
        counts("a NAME at home", 1, true, x -> x.send(Scenes.GATE, Scenes.ROOT0, 2), x -> x.deliver(4));
        counts("a NAME with a gate", 1, true, x -> x.send(Scenes.ROOT1, Scenes.ROOT0, 2), x -> x.deliver(4));
        counts("a MORE", 1, true, x -> sendDown(x, Scenes.GATE, Scenes.ROOT2, 7), x -> x.deliver(10));
        counts("a HOME", 1, true, x -> x.clean(1), x -> x.deliver(4));
        counts("a name that WAITS", 1, true, WalkEdgesTest::gateOfOneHere, x -> x.send(10, Scenes.ROOT2, 2));
        counts("a GIVE", 1, true, WalkEdgesTest::giveToHere, x -> x.deliver(12));
    }

    private static void sendDown(House x, int gate, int root, int times) {
        for (int i = 0; i < times; i++) x.send(gate, root, 2);
    }

    /** Gate 10 of host 0 for ROOT1, of WEIGHT 1. */
    private static void gateOfOneHere(House x) {
        x.deliver(x.send(Scenes.ROOT1, Scenes.ROOT0, 2));
        sendDown(x, 10, Scenes.ROOT2, 6);
    }

    /** Letter 12 is a GIVE to host 0. */
    private static void giveToHere(House x) {
        gateOfOneHere(x);
        x.send(10, Scenes.ROOT2, 2);
        x.deliver(11);
    }

    private static void countsOfCleanings() {
        DUE.sentence("COUNT: a cleaning that frees something");
        countsHere("a cleaning that frees two", x -> x.clean(0));
        counts("a cleaning that frees nothing", 0, false, x -> x.clean(0), x -> x.clean(0));
        counts("a cleaning of another host", 1, false, Scenes::nothing, x -> x.clean(1));
        counts("a cleaning of an empty host", 0, false, Scenes::nothing, x -> x.clean(5));
    }

    /** Boxes 10 and 11 of hosts 0 and 1 in a ring that no ROOT holds. */
    private static void ringBeside(House x) {
        x.box(Scenes.ROOT0, 2, 1);
        x.box(Scenes.ROOT1, 2, 1);
        x.deliver(x.send(10, Scenes.ROOT1, 3));
        x.deliver(x.send(11, Scenes.ROOT0, 3));
        x.put(10, 0, 13);
        x.put(11, 0, 12);
        for (int place = 2; place <= 3; place++) {
            x.clear(Scenes.ROOT0, place);
            x.clear(Scenes.ROOT1, place);
        }
    }

    private static void countsOfWalks() {
        DUE.sentence("COUNT: a WALK that breaks an EXIT there");
        counts("a WALK that breaks one", 1, true, WalkEdgesTest::ringBeside, x -> due("ends", walkFrom(x, 10), BROKEN));
        counts("one that breaks one elsewhere", 1, false, WalkEdgesTest::ringBeside, x -> due("ends", walkFrom(x, 11), BROKEN));
        counts("one that ends MEANT", 0, false, Scenes::nothing, x -> due("ends", walkFrom(x, Scenes.LEAF), MEANT));
        counts("doubt", 0, false, Scenes::nothing, x -> x.doubt(Scenes.LEAF));
        counts("a STEP", 0, false, Scenes::nothing, x -> x.deliver(Scenes.STEP));
    }

    private static void countsOfNothing() {
        DUE.sentence("REFUSALS: nothing is changed");
        counts("delivered again", 0, false, Scenes::nothing, x -> x.deliver(0));
        counts("refused calls", 0, false, Scenes::nothing, x -> {
            x.root(0, 9);
            x.leaf(Scenes.ROOT0, 4, 1);
            x.box(Scenes.ROOT0, 3, 0);
            x.put(Scenes.ROOT0, 3, Scenes.GATE);
            x.clear(Scenes.ROOT0, 3);
            x.row(Scenes.ROOT0, 3, 4, 1);
            x.set(Scenes.BOX, Scenes.OF_LEAF, 0, 1);
            x.copy(Scenes.BOX, 1, 2, 0, 4);
            x.send(Scenes.LEAF, Scenes.ROOT0, 0);
            x.deliver(99);
            x.clean(8);
            x.doubt(Scenes.GATE);
        });
        counts("questions", 0, false, Scenes::nothing, x -> {
            x.element(Scenes.BOX, 1, 0);
            x.holds(Scenes.BOX, 1);
            x.thing(Scenes.BOX, 0);
            x.why(Scenes.LEAF, 0);
            x.audit(Scenes.LEAF, 1);
            x.dead(0);
        });
    }

    private static void countsOfOtherHosts() {
        DUE.sentence("Each HOST has a COUNT");
        counts("root", 1, false, Scenes::nothing, x -> x.root(1, 1));
        counts("leaf", 1, false, Scenes::nothing, x -> x.leaf(Scenes.ROOT1, 3, 1));
        counts("send of a gate to host 0", 1, false, Scenes::nothing, x -> x.send(Scenes.GATE, Scenes.ROOT0, 2));
        counts("a NAME from host 0", 1, false, Scenes::nothing, x -> x.deliver(Scenes.NAME_FOR_A_NEW_GATE));
        counts("a GIVE from host 0", 1, false, x -> {
            sendDown(x, Scenes.GATE, Scenes.ROOT2, 7);
            x.deliver(10);
        }, x -> x.deliver(11));
    }

    // ---- How WALKS begin

    /** The ring with the EXIT of box 3, and gate 5 for it, at 1; NAMES that went home are letters 2 to 7. */
    private static void ringOfOne(House x) {
        Scenes.heldRing(x);
        for (int i = 0; i < 6; i++) x.deliver(x.send(5, 0, 1));
        x.clear(0, 1);
        x.clear(0, 0);
        x.clear(1, 0);
    }

    private static void begunAtAnExitOfOne() {
        DUE.sentence("A WALK is begun at a THING x with an EXIT above 0 that is not BROKEN");
        House x = House.after(WalkEdgesTest::ringOfOne);
        due("EXIT", x.thing(3, 6), 1);
        due("an EXIT of 1", x.doubt(3), 0);
        due("an EXIT of 0", x.doubt(0), -5);
        due("it ends", walkOn(x, 0, 8), BROKEN);
        due("a BROKEN one", x.doubt(3), -5);
        due("the other end", x.doubt(4), 1);
        due("a GATE", x.doubt(5), -2);
    }

    private static void begunFirstStep() {
        DUE.sentence("a STEP for x goes to its HOST, without a GATE");
        House x = House.after(Scenes::stepWithAGate);
        int[] step = {4, 1, 0, 0, 3, 0, -1, -1, 0, 0};
        for (int what = 0; what <= 9; what++) due("letter(2, " + what + ")", x.letter(2, what), step[what]);
        due("only that one", x.status(2), 3);
        due("no GATE is MET", x.walk(0, 5), 0);
        x.deliver(2);
        due("only that to which it leads", x.walk(0, 5), 1);
    }

    private static void toldOfAWalk() {
        DUE.sentence("walk: NONE: no such WALK, another what");
        House x = House.after(Scenes::stepWithAGate);
        int[] want = {0, 3, 1, 0, 0, 0};
        for (int what = 0; what <= 5; what++) due("walk(0, " + what + ")", x.walk(0, what), want[what]);
        for (int what : new int[] {-1, 6, 7, LOW, HIGH}) due("walk(0, " + what + ")", x.walk(0, what), -1);
        for (int w : new int[] {-1, 1, 19, 20, LOW, HIGH}) due("walk(" + w + ", 0)", x.walk(w, 0), -1);
    }

    // ---- HELD and ROOTED

    private static void heldWithoutItself() {
        DUE.sentence("HELD is a THING y by those THINGS of its HOST, without y");
        House x = House.after(Scenes::heldRing);
        x.put(3, 1, 3);
        x.put(4, 1, 4);
        x.clear(0, 0);
        x.clear(1, 0);
        due("ones that hold themselves", walkFrom(x, 3), BROKEN);
    }

    /** The ring, and box 7 of host 1 that holds gate 5, too, and is out by gate 8 in place 0 of root 2. */
    private static void ringWithAHolder(House x) {
        Scenes.heldRing(x);
        x.box(1, 2, 1);
        x.put(7, 0, 5);
        x.deliver(x.send(7, 2, 0));
        x.clear(1, 2);
        x.clear(0, 0);
        x.clear(1, 0);
    }

    private static void heldByOneWithAnExit() {
        DUE.sentence("HELD: that have an EXIT above 0");
        House x = House.after(WalkEdgesTest::ringWithAHolder);
        for (int i = 0; i < 6; i++) x.deliver(x.send(8, 1, 2));
        x.clear(1, 2);
        due("EXIT of the holder", x.thing(7, 6), 1);
        due("held by an EXIT of 1", walkFrom(x, 3), MEANT);
        x.clear(2, 0);
        x.clean(2);
        int home = x.status(2) - 1;
        due("its HOME", x.letter(home, 5), 1);
        due("deliver", x.deliver(home), 1);
        due("EXIT then", x.thing(7, 6), 0);
        due("held by an EXIT of 0", walkFrom(x, 3), BROKEN);
    }

    /**
     * The ring, where box 7 of host 1 holds the gate for box 3, too; box 3
     * leads to box 8 of host 2, and that to box 7. Other places of box 3 may
     * lead to box 7, too.
     */
    private static void widerRing(House x, boolean threeLeadsToSeven) {
        Scenes.heldRing(x);
        x.box(1, 2, 1);
        x.put(7, 0, 5);
        x.box(2, 0, 1);
        x.deliver(x.send(8, 0, 1));
        x.put(3, 1, x.holds(0, 1));
        x.deliver(x.send(7, 2, 1));
        x.put(8, 0, x.holds(2, 1));
        if (threeLeadsToSeven) {
            x.deliver(x.send(7, 0, 1));
            x.put(3, 2, x.holds(0, 1));
        }
        for (int place = 0; place <= 2; place++) {
            for (int root = 0; root <= 2; root++) x.clear(root, place);
        }
    }

    /** 7 and 8 are broken, and 8 is freed: so 7 is BROKEN, with the HOME of its gate in 8 under way. */
    private static void breakSevenAndEight(House x) {
        due("7 is broken", walkFrom(x, 7), BROKEN);
        due("8 is broken", walkFrom(x, 8), BROKEN);
        due("8 is freed", x.clean(2), 2);
        due("7 is there", x.thing(7, 0), 1);
    }

    private static void heldByOneThatIsNotBroken() {
        DUE.sentence("HELD: not BROKEN");
        House x = House.after(h -> widerRing(h, false));
        breakSevenAndEight(x);
        due("EXIT of 7", x.thing(7, 6), 64);
        due("7 holds nothing", walkFrom(x, 3), BROKEN);
        due("7 was not passed", x.walk(2, 4), 2);
    }

    private static void heldByWhatWasNotPassed() {
        DUE.sentence("ALIVE: HELD by one that was not PASSED");
        House x = House.after(WalkEdgesTest::ringWithAHolder);
        due("held by 7", walkFrom(x, 3), MEANT);
        due("7 was not passed", x.walk(0, 4), 2);
        x.clear(2, 0);
        DUE.due("7 is not MEANT", x.meant(7), false);
        due("held by 7 all the same", walkFrom(x, 3), MEANT);
    }

    private static void heldByOneThatLeads() {
        DUE.sentence("HELD: by those THINGS of its HOST that LEAD to it");
        House x = House.after(Scenes::heldRing);
        x.box(0, 2, 1);
        x.deliver(x.send(7, 2, 0));
        x.clear(0, 2);
        x.clear(0, 0);
        x.clear(1, 0);
        due("one of host 0 that is out, and leads to nothing", walkFrom(x, 3), BROKEN);
    }

    private static void rootedByAnyRoot() {
        DUE.sentence("ROOTED is one if it is NEAR");
        House x = House.after(Scenes::heldRing);
        due("both", walkFrom(x, 3), MEANT);
        x.clear(0, 0);
        due("its gate", walkFrom(x, 3), MEANT);
        x.root(1, 2);
        x.put(7, 1, 4);
        x.clear(1, 0);
        due("by a second ROOT", walkFrom(x, 3), MEANT);
        x.clear(7, 1);
        due("none", walkFrom(x, 3), BROKEN);
    }

    private static void rootedWhileANameWaits() {
        DUE.sentence("ROOTED: or is a GATE for which a name WAITS");
        House x = House.after(Scenes::heldRing);
        for (int i = 0; i < 6; i++) x.deliver(x.send(5, 0, 1));
        due("it waits", x.letter(x.send(5, 2, 0), 0), 1);
        x.clear(0, 1);
        x.clear(0, 0);
        x.clear(1, 0);
        due("EXIT", x.thing(3, 6), 1);
        due("WEIGHT", x.thing(5, 5), 1);
        due("while it waits", walkFrom(x, 3), MEANT);
    }

    // ---- STEPS and BACKS

    private static void passedOnce() {
        DUE.sentence("if y was not PASSED by the WALK, it is PASSED; 0 if y was PASSED before");
        House x = House.after(Scenes::stepForAPassedOne);
        due("passed", x.walk(0, 4), 2);
        due("deliver the STEP for the first", x.deliver(5), 1);
        due("passed then", x.walk(0, 4), 2);
        due("met then", x.walk(0, 5), 2);
        due("only a BACK", x.status(2), 8);
        due("it tells", x.letter(7, 9), 0);
        due("by another WALK it is", x.deliver(8), -1);
        x.doubt(3);
        x.deliver(8);
        due("passed by that", x.walk(1, 4), 1);
    }

    /** Box 3 leads to gate 6 twice, and gate 6 is led to by box 7, too. */
    private static void metOnce() {
        DUE.sentence("each GATE to which y LEADS and that the WALK has not MET is MET");
        House x = House.after(Scenes::heldRing);
        x.put(3, 1, 6);
        x.box(3, 2, 2);
        x.put(7, 0, 6);
        x.deliver(x.send(7, 1, 1));
        x.put(4, 2, 8);
        x.clear(1, 1);
        int step = x.status(2);
        x.doubt(3);
        x.deliver(step);
        due("met by 3", x.walk(0, 5), 1);
        due("its BACK tells", x.letter(step + 2, 9), 1);
        x.deliver(step + 1);
        due("met by 4: the gates for 3 and 7", x.walk(0, 5), 3);
        due("a STEP for 7", x.letter(step + 4, 4), 7);
        due("deliver it", x.deliver(step + 4), 1);
        due("passed", x.walk(0, 4), 3);
        due("gate 6 is not met again", x.walk(0, 5), 3);
        due("so its BACK tells", x.letter(step + 6, 9), 0);
    }

    private static void stepForAFreedOne() {
        DUE.sentence("0 if y is not there any more");
        House x = House.after(Scenes::stepForAFreedOne);
        due("passed", x.walk(1, 4), 1);
        due("deliver", x.deliver(10), 1);
        due("passed then", x.walk(1, 4), 1);
        due("a BACK", x.letter(12, 0), 5);
        due("it tells", x.letter(12, 9), 0);
        due("of y", x.letter(12, 4), 3);
        due("it ends", walkOn(x, 1, 11), MEANT);
    }

    /** Box 2 of host 0, out by gate 3 of host 1, and no ROOT holds either; letter 1 is a HOME, letter 2 a STEP. */
    private static void doubtOfOneThatGoes(House x) {
        x.root(0, 2);
        x.root(1, 2);
        x.box(0, 0, 1);
        x.deliver(x.send(2, 1, 0));
        x.clear(1, 0);
        x.clean(1);
        x.doubt(2);
        x.deliver(1);
    }

    private static void freedAheadOfTheFirstStep() {
        DUE.sentence("ALIVE are no others than: a PASSED y: x freed ahead of its STEP");
        House x = House.after(WalkEdgesTest::doubtOfOneThatGoes);
        x.clear(0, 0);
        due("freed", x.clean(0), 1);
        due("its STEP", x.deliver(2), 1);
        due("passed", x.walk(0, 4), 0);
        due("its BACK tells", x.letter(3, 9), 0);
        x.deliver(3);
        due("it ends", x.walk(0, 0), BROKEN);
        due("is BACK", x.walk(0, 3), 1);
        due("STEPS", x.walk(0, 2), 1);
    }

    private static void exitGoneAheadOfTheFirstStep() {
        DUE.sentence("its EXIT, as noted: 0, and not above the sum of no WEIGHTS");
        House x = House.after(WalkEdgesTest::doubtOfOneThatGoes);
        due("EXIT", x.thing(2, 6), 0);
        due("ROOTED", walkOn(x, 0, 2), MEANT);
        House y = House.after(WalkEdgesTest::doubtOfOneThatGoes);
        y.clear(0, 0);
        due("not ROOTED", walkOn(y, 0, 2), BROKEN);
    }

    private static void endsAtTheLastBack() {
        DUE.sentence("When as many are BACK as STEPS went (1, and those of which BACKS told), the WALK ends");
        House x = House.after(Scenes::stepWithAGate);
        int[][] told = {{1, 0}, {1, 0}, {2, 1}, {2, 1}, {3, 2}};
        int[] letters = {2, 3, 4, 5, 6};
        for (int i = 0; i < letters.length; i++) {
            x.deliver(letters[i]);
            due("STEPS", x.walk(0, 2), told[i][0]);
            due("BACK", x.walk(0, 3), told[i][1]);
            due("under way", x.walk(0, 0), 0);
        }
        due("the last BACK", x.deliver(7), 1);
        due("STEPS at last", x.walk(0, 2), 3);
        due("BACK at last", x.walk(0, 3), 3);
        due("it ended", x.walk(0, 0), BROKEN);
        due("its EXIT", x.thing(3, 7), 1);
        due("no more letters", x.status(2), 8);
    }

    private static void lettersAfterTheEnd() {
        DUE.sentence("A STEP, a BACK, delivered while the WALK is under way: not when it ended");
        House x = House.after(Scenes::endedWalk);
        int[] want = {BROKEN, 3, 2, 2, 2, 3};
        due("a STEP", x.deliver(7), 1);
        due("a BACK", x.deliver(8), 1);
        for (int what = 0; what <= 5; what++) due("walk(0, " + what + ")", x.walk(0, what), want[what]);
        due("no letter of it", x.status(2), 10);
        due("none under way", x.status(3), 0);
    }

    // ---- How WALKS end

    private static void changedGoesAhead() {
        DUE.sentence("the WALK ends: CHANGED (2), if the COUNT of a HOST is not as noted; else MEANT (1)");
        House x = House.after(Scenes::heldRing);
        x.doubt(3);
        x.deliver(2);
        x.leaf(0, 7, 1);
        due("though x is ROOTED", walkOn(x, 0, 3), CHANGED);
        House y = House.after(Scenes::stepWithAGate);
        for (int l = 2; l <= 6; l++) y.deliver(l);
        y.leaf(1, 7, 1);
        due("though x is not ALIVE", walkOn(y, 0, 7), CHANGED);
        due("not BROKEN", y.thing(3, 7), 0);
        due("it may be doubted again", y.doubt(3), 1);
    }

    private static void unchangedUntilNoted() {
        DUE.sentence("noted are the COUNT of its HOST (once for each HOST)");
        House x = House.after(Scenes::stepWithAGate);
        x.leaf(0, 7, 1);
        x.deliver(2);
        x.leaf(1, 7, 1);
        x.leaf(2, 7, 1);
        x.deliver(3);
        x.leaf(2, 6, 1);
        due("changed ahead of the noting, or where none is noted", walkOn(x, 0, 4), BROKEN);
    }

    /** The ring with the EXIT of box 3 at 2: 1 in gate 5 of the ring, 1 in gate 7 of host 2. */
    private static void oneMoreOut(House x) {
        Scenes.heldRing(x);
        for (int i = 0; i < 5; i++) x.deliver(x.send(5, 0, 1));
        x.deliver(x.send(5, 2, 0));
        x.clear(0, 1);
        x.clear(0, 0);
        x.clear(1, 0);
    }

    private static void aliveAboveTheSum() {
        DUE.sentence("a PASSED y whose EXIT, as noted, is above the sum of the WEIGHTS noted of GATES for y that were MET");
        House x = House.after(WalkEdgesTest::oneMoreOut);
        due("EXIT", x.thing(3, 6), 2);
        due("MET", x.thing(5, 5), 1);
        due("above by 1", walkFrom(x, 3), MEANT);
        x.clear(2, 0);
        x.clean(2);
        int home = x.status(2) - 1;
        due("above by 1, and no GATE for it", walkFrom(x, 3), MEANT);
        due("HOME", x.deliver(home), 1);
        due("EXIT then", x.thing(3, 6), 1);
        due("as much as the sum", walkFrom(x, 3), BROKEN);
    }

    /** The ring with box 7 of host 2, to which box 3 leads, too, and that has the gate for box 3 that is out there. */
    private static void sumOfTwoGates() {
        DUE.sentence("the sum of the WEIGHTS noted of GATES for y");
        House x = House.after(Scenes::heldRing);
        x.box(2, 1, 1);
        x.deliver(x.send(3, 2, 0));
        x.put(7, 0, x.holds(2, 0));
        x.deliver(x.send(7, 0, 1));
        x.put(3, 1, x.holds(0, 1));
        x.clear(0, 1);
        x.clear(2, 0);
        x.clear(2, 1);
        x.clear(0, 0);
        x.clear(1, 0);
        due("EXIT", x.thing(3, 6), 128);
        due("both were MET", walkFrom(x, 3), BROKEN);
        due("passed", x.walk(0, 4), 3);
        due("met", x.walk(0, 5), 4);
    }

    /** A NAME with box 4 is under way: 4 is ALIVE, so gate 5 is held, so 3 is. */
    private static void aliveByOneThatIsAlive() {
        DUE.sentence("ALIVE: HELD by one that is ALIVE");
        House x = House.after(Scenes::heldRing);
        int name = x.send(4, 2, 0);
        x.clear(0, 0);
        x.clear(1, 0);
        due("a NAME with 4", walkFrom(x, 3), MEANT);
        due("and of 4 itself", walkFrom(x, 4), MEANT);
        x.deliver(name);
        x.clear(2, 0);
        x.clean(2);
        x.deliver(x.status(2) - 1);
        due("without", walkFrom(x, 3), BROKEN);
    }

    /** With the HOME under way the EXIT of 7 is above what the walk from 3 finds in gates: 7 is ALIVE, yet BROKEN. */
    private static void brokenAndAlive() {
        DUE.sentence("ALIVE: HELD by one that is ALIVE: a BROKEN one holds nothing, ALIVE or not");
        House x = House.after(h -> widerRing(h, true));
        breakSevenAndEight(x);
        due("EXIT of 7", x.thing(7, 6), 128);
        due("of it in a gate", x.thing(x.gate(0, 7), 5), 64);
        due("7 holds nothing", walkFrom(x, 3), BROKEN);
        due("passed: 3, 4 and 7", x.walk(2, 4), 3);
    }
}
