/** Sentences of the document on things, letters, cleaning and meaning that name an edge: each has a test of its own. */
public final class EdgesTest {
    private static final int LOW = Integer.MIN_VALUE;
    private static final int HIGH = Integer.MAX_VALUE;
    private static final Due DUE = new Due();
    private static final Unchanged UNCHANGED = new Unchanged(DUE);

    public static void main(String[] args) {
        newObject();
        placesOverwritten();
        leadsToItself();
        leadsFarDown();
        leadsNotOverGates();
        nearByARootOfItsHost();
        exitsAtFirst();
        exitsOfFreedOnes();
        gatesStandForNoGates();
        oneGateForAThing();
        underWayUntilDelivered();
        deliveredAgainEachKind();
        deliveredThreeTimes();
        sixtyFourEachTime();
        nameThatTakesTheLast();
        nameForAGateThatIsNotNear();
        nameForAGateThatWasFreed();
        nameOverWhatAPlaceHeld();
        moreAdds();
        giveToAGateThatIsNotNear();
        giveServesTheFirst();
        giveServesItsHost();
        homeMendsOnlyAtZero();
        homeToAFreedOne();
        keptByAnExitOfOne();
        keptByWhatIsNotBroken();
        keptWhileANameWaits();
        cleansOneHost();
        freedByNumbers();
        freedOfTheLatest();
        lettersOfEachKind();
        whatsOfThings();
        rowOfARoot();
        rowOfTheLongest();
        meantOnlyWhileUnderWay();
        meantByNoOtherLetter();
        auditOfEachLetter();
        DUE.end();
    }

    private static void due(String call, long got, long want) {
        DUE.due(call, got, want);
    }

    // ---- THINGS

    private static void newObject() {
        DUE.sentence("A new object: No THINGS, no LETTERS");
        House x = new House();
        for (int i : new int[] {-1, 0, 1, 299, 300, LOW, HIGH}) {
            for (int what = 0; what <= 7; what++) due("thing(" + i + ", " + what + ")", x.thing(i, what), -1);
            due("letter(" + i + ", 0)", x.letter(i, 0), -1);
            due("walk(" + i + ", 0)", x.walk(i, 0), -1);
            due("gate(0, " + i + ")", x.gate(0, i), -1);
            due("holds(" + i + ", 0)", x.holds(i, 0), -20);
            due("element(" + i + ", 0, 0)", x.element(i, 0, 0), 0);
            due("why(" + i + ", 0)", x.why(i, 0), -1);
            due("audit(" + i + ", 0)", x.audit(i, 0), -1);
            due("audit(" + i + ", 1)", x.audit(i, 1), -1);
            due("freed(" + i + ")", x.freed(i), -1);
            due("dead(" + i + ")", x.dead(i), -1);
            DUE.due("meant(" + i + ")", x.meant(i), false);
        }
        for (int host = 0; host <= 7; host++) due("clean(" + host + ")", x.clean(host), 0);
        for (int what = 0; what <= 7; what++) due("status(" + what + ")", x.status(what), 0);
    }

    private static void placesOverwritten() {
        DUE.sentence("A PLACE holds NOTHING, a THING of the same HOST, or a ROW");
        House x = new House();
        x.root(0, 2);
        due("at first", x.holds(0, 0), -1);
        due("a leaf", x.leaf(0, 0, 1), 1);
        due("a box for the leaf", x.box(0, 0, 1), 2);
        due("holds", x.holds(0, 0), 2);
        due("a row for the box", x.row(0, 0, 3, 2), 1);
        due("holds", x.holds(0, 0), -13);
        due("a leaf for the row", x.leaf(0, 0, 2), 3);
        due("holds", x.holds(0, 0), 3);
        due("no row any more", x.set(0, 0, 0, 1), -2);
        x.row(0, 0, 1, 2);
        due("a thing for the row", x.put(0, 0, 0), 1);
        due("holds", x.holds(0, 0), 0);
        x.row(0, 0, 1, 2);
        x.set(0, 0, 1, 9);
        due("nothing for the row", x.clear(0, 0), 1);
        due("holds", x.holds(0, 0), -1);
        due("its elements are gone", x.element(0, 0, 1), 0);
        due("no element is set", x.set(0, 0, 1, 1), -7);
        due("the other place", x.holds(0, 1), -1);
    }

    private static void leadsToItself() {
        DUE.sentence("A THING LEADS to itself");
        House x = new House();
        x.root(0, 2);
        due("a new ROOT is NEAR", x.put(0, 0, 0), 1);
        due("and leads to no end", x.leaf(0, 1, 1), 1);
        DUE.due("meant(0)", x.meant(0), true);
        due("why(0, 0)", x.why(0, 0), 0);
        due("why(0, 1)", x.why(0, 1), -1);
    }

    private static void leadsFarDown() {
        DUE.sentence("A THING LEADS to those that its PLACES hold, that those LEAD to");
        House x = new House();
        x.root(0, 1);
        for (int n = 1; n <= 120; n++) due("box " + n, x.box(n - 1, 0, 1), n);
        due("the last is NEAR", x.row(120, 0, 0, 1), 1);
        due("why(120, 119)", x.why(120, 119), 119);
        due("why(120, 120)", x.why(120, 120), 120);
        due("why(120, 121)", x.why(120, 121), -1);
        due("clear(0, 0)", x.clear(0, 0), 1);
        due("the first is not NEAR", x.row(1, 0, 0, 1), -5);
        due("the last is not NEAR", x.set(120, 0, 0, 1), -5);
        due("all are freed", x.clean(0), 120);
    }

    private static void leadsNotOverGates() {
        DUE.sentence("a GATE to nothing else: it has no PLACES");
        House x = House.after(Scenes::heldRing);
        x.clear(0, 0);
        due("gate 5 is NEAR", x.put(1, 3, 5), 1);
        due("its THING is not", x.leaf(3, 1, 1), -5);
        DUE.due("yet it is MEANT", x.meant(3), true);
        due("places of a gate", x.thing(5, 2), 0);
        due("holds of a gate", x.holds(5, 0), -20);
    }

    private static void nearByARootOfItsHost() {
        DUE.sentence("NEAR is a THING to which a ROOT of its HOST LEADS");
        House x = new House();
        x.root(0, 2);
        x.root(0, 2);
        x.box(0, 0, 2);
        x.box(2, 0, 1);
        x.put(1, 1, 3);
        x.put(2, 1, 2);
        due("let go by the first", x.clear(0, 0), 1);
        due("one that holds itself is not NEAR", x.leaf(2, 0, 1), -5);
        due("one that another ROOT holds is", x.leaf(3, 0, 1), 4);
        due("let go by the second", x.clear(1, 1), 1);
        due("one that only a far one holds is not", x.leaf(3, 0, 1), -5);
        due("nor what that one holds", x.put(0, 0, 4), -5);
    }

    private static void exitsAtFirst() {
        DUE.sentence("an EXIT: the WEIGHT that is OUT, 0 at first");
        House x = House.after(Scenes::corner);
        for (int t : new int[] {Scenes.ROOT0, Scenes.ROOT1, Scenes.FAR_BOX, Scenes.FAR_LEAF, Scenes.GATE, Scenes.FREED}) {
            due("exit of " + t, x.thing(t, 6), 0);
            due("broken of " + t, x.thing(t, 7), 0);
        }
        due("exit of one sent once", x.thing(Scenes.BOX, 6), 64);
        due("exit of one sent twice", x.thing(Scenes.LEAF, 6), 128);
        due("exit of one never made", x.thing(Scenes.NEVER_MADE, 6), -1);
        due("broken of one never made", x.thing(Scenes.NEVER_MADE, 7), -1);
    }

    private static void exitsOfFreedOnes() {
        DUE.sentence("It stays when its THING is freed");
        House x = House.after(Scenes::brokenRing);
        due("clean(0)", x.clean(0), 2);
        for (int what = 0; what <= 5; what++) due("thing(3, " + what + ")", x.thing(3, what), -1);
        due("its EXIT", x.thing(3, 6), 64);
        due("it is BROKEN", x.thing(3, 7), 1);
        due("audit(3, 0)", x.audit(3, 0), 64);
        due("audit(3, 1)", x.audit(3, 1), 64);
        due("a freed gate's EXIT", x.thing(6, 6), 0);
        due("a freed gate's audit", x.audit(6, 0), -1);
    }

    private static void gatesStandForNoGates() {
        DUE.sentence("GATE (it stands for a THING, that is no GATE, of another HOST)");
        House x = House.after(Scenes::heldRing);
        x.deliver(x.send(5, 2, 0));
        due("a gate sent on", x.holds(2, 0), 7);
        due("its kind", x.thing(7, 0), 3);
        due("it stands for the box", x.thing(7, 4), 3);
        due("no gate for a gate", x.gate(2, 5), -1);
        x.deliver(x.send(7, 0, 5));
        due("at home there is no gate", x.holds(0, 5), 3);
        due("gate(0, 3)", x.gate(0, 3), -1);
    }

    private static void oneGateForAThing() {
        DUE.sentence("of one HOST there is at most one GATE for a THING");
        House x = House.after(Scenes::heldRing);
        x.root(1, 2);
        x.deliver(x.send(3, 7, 0));
        due("by another ROOT", x.holds(7, 0), 5);
        x.deliver(x.send(3, 2, 0));
        due("of another HOST", x.holds(2, 0), 8);
        x.deliver(x.send(8, 1, 4));
        due("by a gate of that HOST", x.holds(1, 4), 5);
        due("its WEIGHT", x.thing(5, 5), 64 + 64 + 32);
        due("that one's WEIGHT", x.thing(8, 5), 32);
        due("EXIT", x.thing(3, 6), 64 * 3);
        due("THINGS", x.status(0), 9);
    }

    // ---- LETTERS

    private static void underWayUntilDelivered() {
        DUE.sentence("A LETTER is UNDER WAY until it is delivered");
        House x = House.after(Scenes::withGive);
        for (int l : new int[] {2, 3, 4, 9, 11}) due("letter(" + l + ", 1)", x.letter(l, 1), 1);
        for (int l : new int[] {0, 1, 10}) due("letter(" + l + ", 1)", x.letter(l, 1), 0);
        due("under way", x.status(3), 9);
        due("deliver(11)", x.deliver(11), 1);
        due("letter(11, 1)", x.letter(11, 1), 0);
        due("one less, and the one that it sent", x.status(3), 9);
        due("deliver(3)", x.deliver(3), 1);
        due("a STEP less, a BACK more", x.status(3), 9);
        due("deliver(2)", x.deliver(2), 1);
        due("a NAME less", x.status(3), 8);
    }

    private static void deliveredAgain(String kind, Scene scene, int l, Scene first) {
        Scene both = x -> {
            scene.build(x);
            first.build(x);
        };
        UNCHANGED.onlyChanges(both, 0, kind + " again", x -> x.deliver(l), "status(6)", 1);
    }

    private static void deliveredAgainEachKind() {
        DUE.sentence("Delivered again it does nothing");
        deliveredAgain("a NAME for a gate", Scenes::corner, 2, x -> x.deliver(2));
        deliveredAgain("a NAME at home", Scenes::withHomeward, 4, x -> x.deliver(4));
        deliveredAgain("a MORE", Scenes::withMore, 10, x -> x.deliver(10));
        deliveredAgain("a GIVE", Scenes::withGive, 11, x -> x.deliver(11));
        deliveredAgain("a HOME", Scenes::withHome, 8, x -> x.deliver(8));
        deliveredAgain("a STEP", Scenes::stepWithAGate, 2, x -> x.deliver(2));
        deliveredAgain("a BACK", Scenes::withBack, 4, x -> x.deliver(4));
        deliveredAgain("a STEP of an ended WALK", Scenes::endedWalk, 7, x -> x.deliver(7));
        deliveredAgain("a BACK of an ended WALK", Scenes::endedWalk, 8, x -> x.deliver(8));
    }

    private static void deliveredThreeTimes() {
        DUE.sentence("deliver: 1; 0 if it was before");
        House x = House.after(Scenes::corner);
        due("the first time", x.deliver(2), 1);
        due("the second time", x.deliver(2), 0);
        due("the third time", x.deliver(2), 0);
        due("another one", x.deliver(Scenes.DELIVERED), 0);
        due("no refusals", x.status(11) + x.status(16), 0);
    }

    private static void sixtyFourEachTime() {
        DUE.sentence("if x is no GATE, 64 are added to its EXIT, and a NAME with x and 64 goes to the ROOT's HOST");
        House x = House.after(Scenes::heldRing);
        for (int n = 1; n <= 10; n++) {
            int l = x.send(2, n % 2, 7);
            due("EXIT", x.thing(2, 6), 64 * n);
            due("WEIGHT", x.letter(l, 5), 64);
            due("to", x.letter(l, 2), n % 2);
            due("from", x.letter(l, 3), 2);
            due("ROOT", x.letter(l, 6), n % 2);
        }
    }

    private static void nameThatTakesTheLast() {
        DUE.sentence("NAME: at the THING's own HOST its WEIGHT is taken from the EXIT, and the PLACE of the ROOT holds the THING");
        House x = House.after(Scenes::withHomeward);
        due("WEIGHT", x.letter(4, 5), 32);
        x.clear(Scenes.ROOT1, 0);
        due("the gate and the far one", x.clean(1), 2);
        due("the HOME of the gate", x.letter(5, 5), 32);
        due("deliver the HOME", x.deliver(5), 1);
        due("EXIT", x.thing(Scenes.BOX, 6), 32);
        due("deliver the NAME", x.deliver(4), 1);
        due("EXIT then", x.thing(Scenes.BOX, 6), 0);
        due("the place", x.holds(Scenes.ROOT0, 2), Scenes.BOX);
        due("doubt of it", x.doubt(Scenes.BOX), -5);
    }

    private static void nameForAGateThatIsNotNear() {
        DUE.sentence("elsewhere the HOST's GATE for the THING gets its WEIGHT more: a GATE that is not NEAR");
        House x = House.after(Scenes::corner);
        due("a NAME for FAR_GATE", x.deliver(x.send(Scenes.LEAF, Scenes.ROOT1, 3)), 1);
        due("the place", x.holds(Scenes.ROOT1, 3), Scenes.FAR_GATE);
        due("WEIGHT", x.thing(Scenes.FAR_GATE, 5), 128);
        due("it is NEAR now", x.put(Scenes.ROOT1, 2, Scenes.FAR_GATE), 1);
    }

    private static void nameForAGateThatWasFreed() {
        DUE.sentence("or a new GATE is made with it, and the PLACE holds that");
        House x = House.after(Scenes::corner);
        x.clean(1);
        due("gate(1, LEAF)", x.gate(1, Scenes.LEAF), -1);
        due("a NAME", x.deliver(x.send(Scenes.LEAF, Scenes.ROOT1, 3)), 1);
        due("a new gate", x.holds(Scenes.ROOT1, 3), Scenes.NEVER_MADE);
        due("its WEIGHT", x.thing(Scenes.NEVER_MADE, 5), 64);
        due("EXIT, with the HOME under way", x.thing(Scenes.LEAF, 6), 192);
        due("audit", x.audit(Scenes.LEAF, 1), 192);
    }

    private static void nameOverWhatAPlaceHeld() {
        DUE.sentence("the PLACE of the ROOT holds the THING: whatever it held");
        House x = House.after(Scenes::corner);
        x.row(Scenes.ROOT1, 2, 3, 4);
        int overRow = x.send(Scenes.LEAF, Scenes.ROOT1, 2);
        int overGate = x.send(Scenes.LEAF, Scenes.ROOT1, 0);
        due("held until then", x.holds(Scenes.ROOT1, 2), -13);
        x.deliver(overRow);
        x.deliver(overGate);
        due("over a ROW", x.holds(Scenes.ROOT1, 2), Scenes.FAR_GATE);
        due("its elements", x.set(Scenes.ROOT1, 2, 0, 1), -2);
        due("over a gate", x.holds(Scenes.ROOT1, 0), Scenes.FAR_GATE);
        due("that one is not NEAR", x.put(Scenes.ROOT1, 3, Scenes.GATE), -5);
    }

    private static void moreAdds() {
        DUE.sentence("MORE: 64 are added to the THING's EXIT, and a GIVE with 64 goes to the HOST from which it came");
        House x = House.after(Scenes::withMore);
        due("EXIT", x.thing(Scenes.BOX, 6), 64);
        due("deliver", x.deliver(10), 1);
        due("EXIT then", x.thing(Scenes.BOX, 6), 128);
        int[] give = {2, 1, 1, 0, Scenes.BOX, 64, -1, -1, -1, 0};
        for (int what = 0; what <= 9; what++) due("GIVE " + what, x.letter(11, what), give[what]);
        due("the gate has it not yet", x.thing(Scenes.GATE, 5), 1);
        due("the name waits still", x.status(5), 1);
    }

    private static void giveToAGateThatIsNotNear() {
        DUE.sentence("it is SENT, as told: though its GATE is not NEAR any more");
        House x = House.after(Scenes::withGive);
        x.clear(Scenes.ROOT1, 0);
        due("not NEAR", x.send(Scenes.GATE, Scenes.ROOT2, 2), -5);
        due("kept", x.clean(1), 1);
        due("only the other one was freed", x.freed(0), Scenes.FAR_GATE);
        due("deliver the GIVE", x.deliver(11), 1);
        int name = x.status(2) - 1;
        due("a NAME", x.letter(name, 0), 0);
        due("WEIGHT", x.letter(name, 5), 32);
        due("kept WEIGHT", x.thing(Scenes.GATE, 5), 33);
        due("freed now", x.clean(1), 1);
    }

    private static void giveServesTheFirst() {
        DUE.sentence("WAITS (16 at most do, in order): GIVE: the first name");
        House x = House.after(Scenes::weightOne);
        for (int place = 0; place < 3; place++) x.send(Scenes.GATE, Scenes.ROOT2, 2 - place);
        for (int more = 12; more >= 10; more--) x.deliver(more);
        for (int give = 13; give <= 15; give++) x.deliver(give);
        for (int place = 0; place < 3; place++) due("place of name " + place, x.letter(16 + place, 7), 2 - place);
        int[] weights = {32, 48, 56};
        for (int n = 0; n < 3; n++) due("WEIGHT of name " + n, x.letter(16 + n, 5), weights[n]);
        due("kept", x.thing(Scenes.GATE, 5), 1 + 3 * 64 - 32 - 48 - 56);
    }

    /** Gates of hosts 1 and 2 for one THING, both of WEIGHT 1, and a name waits for each. */
    private static void giveServesItsHost() {
        DUE.sentence("the first name that WAITS there for that GATE");
        House x = House.after(Scenes::weightOne);
        x.deliver(9);
        int second = x.gate(2, Scenes.BOX);
        due("WEIGHT", x.thing(second, 5), 1);
        x.send(Scenes.GATE, Scenes.ROOT0, 2);
        x.send(second, Scenes.ROOT0, 3);
        due("two wait", x.status(5), 2);
        x.deliver(11);
        due("a GIVE to host 2", x.letter(12, 2), 2);
        due("deliver", x.deliver(12), 1);
        due("its name goes", x.letter(13, 7), 3);
        due("from host 2", x.letter(13, 3), 2);
        due("one waits", x.status(5), 1);
        due("the other WEIGHT", x.thing(Scenes.GATE, 5), 1);
        due("this WEIGHT", x.thing(second, 5), 33);
    }

    /** Box 3 of host 0 with gates for boxes 4 and 5 of hosts 1 and 2, each with a gate for box 3; no ROOT holds them. */
    private static void threeBoxes(House x) {
        for (int host = 0; host < 3; host++) x.root(host, 8);
        for (int host = 0; host < 3; host++) x.box(host, 0, 4);
        for (int host = 1; host < 3; host++) {
            x.deliver(x.send(3, host, 1));
            x.put(3 + host, 0, x.holds(host, 1));
            x.clear(host, 1);
            x.deliver(x.send(3 + host, 0, 1));
            x.put(3, host, x.holds(0, 1));
            x.clear(0, 1);
        }
        for (int host = 0; host < 3; host++) x.clear(host, 0);
    }

    private static void walkToTheEnd(House x, int t) {
        int l = x.status(2);
        x.doubt(t);
        while (x.letter(l, 0) >= 4) x.deliver(l++);
    }

    private static void homeMendsOnlyAtZero() {
        DUE.sentence("HOME: its WEIGHT is taken from the THING's EXIT (an EXIT of 0 is BROKEN no more)");
        House x = House.after(EdgesTest::threeBoxes);
        for (int t = 3; t <= 5; t++) {
            walkToTheEnd(x, t);
            due("broken " + t, x.thing(t, 7), 1);
        }
        due("EXIT", x.thing(3, 6), 128);
        due("clean(1)", x.clean(1), 2);
        due("deliver the HOME", x.deliver(x.status(2) - 1), 1);
        due("EXIT then", x.thing(3, 6), 64);
        due("BROKEN still", x.thing(3, 7), 1);
        due("clean(2)", x.clean(2), 2);
        due("deliver the other HOME", x.deliver(x.status(2) - 1), 1);
        due("EXIT at last", x.thing(3, 6), 0);
        due("BROKEN no more", x.thing(3, 7), 0);
        due("it is there still", x.thing(3, 0), 1);
    }

    private static void homeToAFreedOne() {
        DUE.sentence("HOME: its WEIGHT is taken from the THING's EXIT: of a freed one, too");
        House x = House.after(Scenes::withHome);
        x.deliver(8);
        due("clean(1)", x.clean(1), 2);
        due("EXIT", x.thing(3, 6), 64);
        due("deliver", x.deliver(9), 1);
        due("EXIT then", x.thing(3, 6), 0);
        due("BROKEN no more", x.thing(3, 7), 0);
        due("it is there no more", x.thing(3, 0), -1);
    }

    // ---- CLEANING

    /** GATE and the EXIT of BOX at 1, by NAMES that went home, letters 4 to 9; no ROOT of host 0 holds BOX. */
    private static void exitOfOne(House x) {
        Scenes.corner(x);
        for (int l = 4; l <= 9; l++) x.deliver(x.send(Scenes.GATE, Scenes.ROOT0, 2));
        x.clear(Scenes.ROOT0, 2);
        x.clear(Scenes.ROOT0, 0);
    }

    private static void keptByAnExitOfOne() {
        DUE.sentence("KEPT: or its THINGS whose EXIT is above 0");
        House x = House.after(EdgesTest::exitOfOne);
        due("EXIT", x.thing(Scenes.BOX, 6), 1);
        due("WEIGHT", x.thing(Scenes.GATE, 5), 1);
        due("only what it does not lead to", x.clean(0), 2);
        due("freed(0)", x.freed(0), Scenes.FAR_BOX);
        due("freed(1)", x.freed(1), Scenes.FAR_LEAF);
        due("the leaf in it is there", x.thing(Scenes.LEAF, 0), 0);
        x.clear(Scenes.ROOT1, 0);
        due("clean(1)", x.clean(1), 2);
        due("a HOME with 1", x.letter(10, 5), 1);
        due("kept until then", x.clean(0), 0);
        due("deliver", x.deliver(10), 1);
        due("EXIT then", x.thing(Scenes.BOX, 6), 0);
        due("the leaf keeps itself", x.clean(0), 1);
        due("freed(0) then", x.freed(0), Scenes.BOX);
    }

    private static void keptByWhatIsNotBroken() {
        DUE.sentence("KEPT: whose EXIT is above 0 and not BROKEN");
        House x = House.after(Scenes::ring);
        due("ahead of the WALK", x.clean(0), 0);
        House y = House.after(Scenes::brokenRing);
        due("EXIT", y.thing(3, 6), 64);
        due("after the WALK", y.clean(0), 2);
        due("freed(0)", y.freed(0), 3);
        due("freed(1)", y.freed(1), 6);
        due("the other end is not BROKEN", y.clean(1), 0);
    }

    private static void keptWhileANameWaits() {
        DUE.sentence("KEPT: and GATES for which a name WAITS");
        House x = House.after(Scenes::withMore);
        x.clear(Scenes.ROOT1, 0);
        due("clean(1)", x.clean(1), 1);
        due("not the one for which a name waits", x.thing(Scenes.GATE, 0), 3);
        DUE.due("it is MEANT", x.meant(Scenes.GATE), true);
        x.deliver(10);
        due("with the GIVE under way", x.clean(1), 0);
        x.deliver(12);
        due("when none waits", x.clean(1), 1);
        due("freed(0)", x.freed(0), Scenes.GATE);
    }

    private static void cleansOneHost() {
        DUE.sentence("CLEANING a HOST: Its other THINGS are freed");
        House x = House.after(Scenes::corner);
        due("clean(3), no THINGS", x.clean(3), 0);
        due("clean(2), nothing to free", x.clean(2), 0);
        due("clean(1)", x.clean(1), 1);
        due("those of host 0 are there", x.thing(Scenes.FAR_BOX, 0), 1);
        due("clean(0)", x.clean(0), 2);
        due("clean(0) again", x.clean(0), 0);
    }

    private static void freedByNumbers() {
        DUE.sentence("freed, by their numbers");
        House x = new House();
        x.root(0, 1);
        x.box(0, 0, 8);
        for (int n = 2; n <= 9; n++) x.leaf(1, 9 - n, n);
        x.clear(0, 0);
        due("clean(0)", x.clean(0), 9);
        for (int i = 0; i < 9; i++) due("freed(" + i + ")", x.freed(i), 1 + i);
        for (int i : new int[] {-1, 9, 10, 300, LOW, HIGH}) due("freed(" + i + ")", x.freed(i), -1);
    }

    private static void freedOfTheLatest() {
        DUE.sentence("freed: The i-th THING that the latest clean() freed that was not refused; NONE");
        House x = House.after(Scenes::corner);
        due("of clean(2)", x.freed(0), Scenes.FREED);
        due("refused", x.clean(8), -1);
        due("of clean(2) still", x.freed(0), Scenes.FREED);
        due("clean(0)", x.clean(0), 2);
        due("of clean(0)", x.freed(0), Scenes.FAR_BOX);
        due("of clean(0), the second", x.freed(1), Scenes.FAR_LEAF);
        due("clean(1)", x.clean(1), 1);
        due("of clean(1)", x.freed(0), Scenes.FAR_GATE);
        due("no second", x.freed(1), -1);
        due("clean(7) frees none", x.clean(7), 0);
        due("so none", x.freed(0), -1);
    }

    // ---- What is told

    private static void dueLetter(House x, int l, int... want) {
        for (int what = 0; what <= 9; what++) due("letter(" + l + ", " + what + ")", x.letter(l, what), want[what]);
        for (int what : new int[] {-1, 10, LOW, HIGH}) due("letter(" + l + ", " + what + ")", x.letter(l, what), -1);
    }

    private static void lettersOfEachKind() {
        DUE.sentence("letter: 5 WEIGHT (0), 6 ROOT (NONE), 7 PLACE (NONE), 8 WALK (NONE), 9 how many STEPS a BACK tells (0). NONE: no such LETTER, another what");
        House x = House.after(Scenes::withGive);
        dueLetter(x, 0, 0, 0, 1, 0, Scenes.BOX, 64, Scenes.ROOT1, 0, -1, 0);
        dueLetter(x, 2, 0, 1, 2, 0, Scenes.LEAF, 64, Scenes.ROOT2, 1, -1, 0);
        dueLetter(x, 3, 4, 1, 0, 0, Scenes.BOX, 0, -1, -1, 0, 0);
        dueLetter(x, 10, 1, 0, 0, 1, Scenes.BOX, 0, -1, -1, -1, 0);
        dueLetter(x, 11, 2, 1, 1, 0, Scenes.BOX, 64, -1, -1, -1, 0);
        for (int l : new int[] {-1, 12, 600, LOW, HIGH}) due("letter(" + l + ", 0)", x.letter(l, 0), -1);
        House y = House.after(Scenes::stepForAFreedOne);
        dueLetter(y, 3, 4, 0, 1, 0, 4, 0, -1, -1, 0, 0);
        dueLetter(y, 4, 5, 0, 0, 0, 3, 0, -1, -1, 0, 1);
        dueLetter(y, 6, 5, 0, 0, 1, 4, 0, -1, -1, 0, 1);
        dueLetter(y, 7, 5, 0, 0, 0, 3, 0, -1, -1, 0, 0);
        dueLetter(y, 8, 3, 1, 1, 0, 4, 64, -1, -1, -1, 0);
        dueLetter(y, 10, 4, 1, 0, 1, 3, 0, -1, -1, 1, 0);
        dueLetter(y, 11, 5, 1, 1, 1, 4, 0, -1, -1, 1, 1);
    }

    private static void whatsOfThings() {
        DUE.sentence("thing: NONE: a freed THING (but for 6, 7), no such THING, another what");
        House x = House.after(Scenes::corner);
        for (int t : new int[] {Scenes.ROOT0, Scenes.BOX, Scenes.LEAF, Scenes.GATE, Scenes.FREED}) {
            for (int what : new int[] {-1, 8, 9, LOW, HIGH}) due("thing(" + t + ", " + what + ")", x.thing(t, what), -1);
        }
        due("MARK", x.thing(Scenes.LEAF, 3), 7);
        due("MARK of a BOX", x.thing(Scenes.BOX, 3), 0);
        due("MARK of a freed LEAF", x.thing(Scenes.FREED, 3), -1);
        x.leaf(Scenes.ROOT0, 3, LOW);
        due("the least MARK", x.thing(Scenes.NEVER_MADE, 3), LOW);
        x.leaf(Scenes.ROOT0, 3, HIGH);
        due("the greatest MARK", x.thing(Scenes.NEVER_MADE + 1, 3), HIGH);
        due("the THING of a BOX", x.thing(Scenes.BOX, 4), -1);
        due("the WEIGHT of a BOX", x.thing(Scenes.BOX, 5), 0);
        due("PLACES of a LEAF", x.thing(Scenes.LEAF, 2), 0);
    }

    // ---- MEANING

    private static void dueRow(House x, int t, int... want) {
        for (int i = 0; i < want.length; i++) due("why(" + t + ", " + i + ")", x.why(t, i), want[i]);
        for (int i : new int[] {-1, want.length, LOW, HIGH}) due("why(" + t + ", " + i + ")", x.why(t, i), -1);
        DUE.due("meant(" + t + ")", x.meant(t), want.length > 0);
    }

    private static void rowOfARoot() {
        DUE.sentence("MEANT are all ROOTS: a ROW of MEANING from a ROOT on");
        House x = new House();
        x.root(0, 2);
        x.root(0, 2);
        x.put(0, 0, 1);
        x.root(1, 2);
        x.send(1, 2, 0);
        dueRow(x, 0, 0);
        dueRow(x, 1, 1);
        dueRow(x, 2, 2);
        dueRow(x, 3);
        due("dead(0)", x.dead(0), -1);
    }

    private static void rowOfTheLongest() {
        DUE.sentence("each one's PLACE holds the next, or it is a GATE for the next, or it is a ROOT and a NAME with the next is UNDER WAY to it");
        House x = House.after(Scenes::heldRing);
        x.clear(0, 0);
        dueRow(x, 4, 1, 4);
        dueRow(x, 5, 1, 4, 5);
        dueRow(x, 3, 1, 4, 5, 3);
        dueRow(x, 6, 1, 4, 5, 3, 6);
        x.send(4, 2, 0);
        x.clear(1, 0);
        dueRow(x, 6, 2, 4, 5, 3, 6);
        x.deliver(2);
        dueRow(x, 6, 2, 7, 4, 5, 3, 6);
    }

    private static void meantOnlyWhileUnderWay() {
        DUE.sentence("MEANT: the THING of a NAME that is UNDER WAY");
        House x = new House();
        x.root(0, 2);
        x.root(1, 2);
        x.leaf(0, 0, 1);
        x.send(2, 1, 0);
        x.send(2, 1, 0);
        x.clear(0, 0);
        dueRow(x, 2, 1, 2);
        x.deliver(0);
        dueRow(x, 2, 1, 2);
        x.clear(1, 0);
        dueRow(x, 2, 1, 2);
        dueRow(x, 3);
        x.deliver(1);
        dueRow(x, 2, 1, 3, 2);
        x.clear(1, 0);
        dueRow(x, 2);
        due("dead(0)", x.dead(0), 2);
        due("dead(1)", x.dead(1), 3);
        due("dead(2)", x.dead(2), -1);
        due("dead(-1)", x.dead(-1), -1);
    }

    /** A HOME, a STEP and a BACK are under way. */
    private static void meantByNoOtherLetter() {
        DUE.sentence("MEANT: of a NAME, of no other LETTER");
        House x = House.after(Scenes::stepForAFreedOne);
        due("a HOME, a STEP and a BACK", x.status(3), 3);
        due("dead(0)", x.dead(0), 4);
        due("dead(1)", x.dead(1), 5);
        due("dead(2), one that is freed is not", x.dead(2), -1);
        DUE.due("meant(4)", x.meant(4), false);
        DUE.due("meant(3), a freed one", x.meant(3), false);
    }

    private static void auditOfEachLetter() {
        DUE.sentence("audit: 1 the sum of the WEIGHTS of all GATES for it and of LETTERS UNDER WAY with it. NONE: another THING, what");
        House x = House.after(Scenes::withGive);
        due("NAMES, a GIVE and a gate", x.audit(Scenes.BOX, 1), 128);
        due("EXIT", x.audit(Scenes.BOX, 0), 128);
        x.deliver(11);
        due("the NAME that it sent", x.audit(Scenes.BOX, 1), 128);
        for (int l = 4; l <= 9; l++) x.deliver(l);
        due("two gates and a NAME", x.audit(Scenes.BOX, 1), 128);
        x.clear(Scenes.ROOT1, 0);
        x.clean(1);
        due("a HOME", x.audit(Scenes.BOX, 1), 128);
        due("one never sent", x.audit(Scenes.ROOT0, 1), 0);
        for (int what : new int[] {-1, 2, LOW, HIGH}) due("audit(BOX, " + what + ")", x.audit(Scenes.BOX, what), -1);
        for (int t : new int[] {-1, Scenes.FAR_GATE, 99, LOW, HIGH}) due("audit(" + t + ", 1)", x.audit(t, 1), -1);
    }
}
