/** Each bound of the document: one below it, at it, and one above it. */
public final class BoundsTest {
    private static final int LOW = Integer.MIN_VALUE;
    private static final int HIGH = Integer.MAX_VALUE;
    private static final Due DUE = new Due();
    private static final Unchanged UNCHANGED = new Unchanged(DUE);

    public static void main(String[] args) {
        hosts();
        numbersOfThings();
        lastThingByEachCall();
        lastThingByAName();
        whatNeedsNoThing();
        freedThingsCount();
        refusedThingsDoNotCount();
        allThingsAreNear();
        placesOfABox();
        placesOfARoot();
        elements();
        sorts();
        bitsOfBytes();
        bitsOfShorts();
        bitsOfInts();
        bitsOfLongs();
        copyBounds();
        numbersOfLetters();
        lastLetters();
        lastLettersOfWalks();
        lastLettersOfCleaning();
        whatNeedsNoLetter();
        weights();
        oddWeights();
        waitingNames();
        waitingNamesOfTwoGates();
        waitingNamesMakeRoom();
        walks();
        endedWalksCount();
        DUE.end();
    }

    private static void due(String call, long got, long want) {
        DUE.due(call, got, want);
    }

    // ---- HOSTS and THINGS

    private static void hosts() {
        DUE.sentence("HOSTS 0 to 7");
        House x = new House();
        due("root(-1, 1)", x.root(-1, 1), -1);
        for (int host = 0; host <= 7; host++) {
            due("root(" + host + ", 1)", x.root(host, 1), host);
            due("its host", x.thing(host, 1), host);
            due("clean(" + host + ")", x.clean(host), 0);
        }
        due("root(8, 1)", x.root(8, 1), -1);
        due("clean(-1)", x.clean(-1), -1);
        due("clean(8)", x.clean(8), -1);
        due("from host 0 to host 7", x.deliver(x.send(0, 7, 0)), 1);
        due("gate(7, 0)", x.gate(7, 0), 8);
        due("from host 7 to host 0", x.deliver(x.send(7, 0, 0)), 1);
        due("gate(0, 7)", x.gate(0, 7), 9);
        for (int host : new int[] {-1, 1, 6, 8, LOW, HIGH}) due("gate(" + host + ", 0)", x.gate(host, 0), -1);
    }

    private static void numbersOfThings() {
        DUE.sentence("THINGS have numbers, from 0 on, never given again");
        House x = new House();
        due("the first", x.root(3, 2), 0);
        due("a root", x.root(4, 2), 1);
        due("a box", x.box(0, 0, 1), 2);
        due("a leaf", x.leaf(0, 0, 1), 3);
        due("a box was let go", x.clean(3), 1);
        due("which", x.freed(0), 2);
        due("its number is not given again", x.leaf(0, 1, 1), 4);
        x.deliver(x.send(4, 1, 0));
        due("a gate has a number, too", x.holds(1, 0), 5);
        x.clear(1, 0);
        due("the gate is let go", x.clean(4), 1);
        x.deliver(x.send(4, 1, 0));
        due("nor is a gate's given again", x.holds(1, 0), 6);
        due("of which there were", x.status(0), 7);
        due("of which there are", x.status(1), 5);
    }

    /** Roots 0 and 1, leaves 2 and 3 of host 0 under way to places 0 and 1 of root 1, then leaves up to a number of things. */
    private static void makeThings(House x, int things) {
        x.root(0, 8);
        x.root(1, 8);
        for (int n = 2; n <= 3; n++) {
            x.leaf(0, n, n);
            x.send(n, 1, n - 2);
        }
        for (int n = 4; n < things; n++) x.leaf(0, 0, n);
    }

    private static House withThings(int things) {
        House x = House.after(h -> makeThings(h, things));
        due("things made", x.status(0), things);
        return x;
    }

    private static void lastThingByEachCall() {
        DUE.sentence("300 at most are ever made: root, leaf, box");
        Call[] makers = {x -> x.root(7, 8), x -> x.leaf(0, 0, 5), x -> x.box(0, 0, 8)};
        for (Call maker : makers) {
            House x = withThings(298);
            due("the 299th", maker.on(x), 298);
            due("the 300th", maker.on(x), 299);
            due("a 301st", maker.on(x), -6);
            due("a 302nd", maker.on(x), -6);
            due("made", x.status(0), 300);
        }
    }

    private static void lastThingByAName() {
        DUE.sentence("300 at most are ever made: a GATE by a NAME");
        House x = withThings(299);
        due("the NAME that makes the 300th", x.deliver(0), 1);
        due("its gate", x.holds(1, 0), 299);
        due("the NAME that would make a 301st", x.deliver(1), -6);
        due("it is under way still", x.letter(1, 1), 1);
        due("the place", x.holds(1, 1), -1);
        due("made", x.status(0), 300);
        UNCHANGED.refused(h -> makeThings(h, 300), -6, "a NAME for a new gate", h -> h.deliver(1));
    }

    private static void whatNeedsNoThing() {
        DUE.sentence("the HOST's GATE for the THING gets its WEIGHT more, or a new GATE is made");
        House x = withThings(299);
        x.deliver(0);
        due("a NAME for a gate that is there, at 300", x.deliver(x.send(2, 1, 5)), 1);
        due("its place", x.holds(1, 5), 299);
        due("its weight", x.thing(299, 5), 128);
        due("a NAME at the THING's own host, at 300", x.deliver(x.send(299, 0, 6)), 1);
        due("that place", x.holds(0, 6), 2);
        due("a row is no THING", x.row(0, 7, 0, 32), 1);
    }

    private static void freedThingsCount() {
        DUE.sentence("300 at most are ever made: freed ones, too");
        House x = withThings(300);
        due("clean(0)", x.clean(0), 295);
        due("that are there", x.status(1), 5);
        due("leaf", x.leaf(0, 1, 1), -6);
        due("box", x.box(0, 1, 1), -6);
        due("root", x.root(5, 1), -6);
        due("a gate", x.deliver(0), -6);
    }

    private static void refusedThingsDoNotCount() {
        DUE.sentence("a call that is refused makes nothing");
        House x = withThings(299);
        for (int i = 0; i < 5; i++) {
            due("root(0, 9)", x.root(0, 9), -6);
            due("box(0, 0, 9)", x.box(0, 0, 9), -6);
            due("leaf(0, 8, 1)", x.leaf(0, 8, 1), -3);
        }
        due("the 300th", x.leaf(0, 0, 1), 299);
    }

    private static void allThingsAreNear() {
        DUE.sentence("NEAR is a THING to which a ROOT of its HOST LEADS: all 300, each in the one ahead");
        House x = new House();
        x.root(0, 2);
        for (int n = 1; n < 300; n++) x.box(n - 1, 0, 2);
        due("made", x.status(0), 300);
        due("the last is NEAR", x.row(299, 1, 0, 1), 1);
        DUE.due("meant(299)", x.meant(299), true);
        due("why(299, 0)", x.why(299, 0), 0);
        due("why(299, 298)", x.why(299, 298), 298);
        due("why(299, 299)", x.why(299, 299), 299);
        due("why(299, 300)", x.why(299, 300), -1);
        due("dead(0)", x.dead(0), -1);
        due("all are kept", x.clean(0), 0);
        x.clear(0, 0);
        due("dead(298)", x.dead(298), 299);
        due("dead(299)", x.dead(299), -1);
        due("all but the ROOT are freed", x.clean(0), 299);
        due("freed(298)", x.freed(298), 299);
        due("freed(299)", x.freed(299), -1);
    }

    // ---- PLACES, elements, SORTS

    private static void duePlaces(House x, int t, int n) {
        due("thing(" + t + ", 2)", x.thing(t, 2), n);
        due("leaf below the first place", x.leaf(t, -1, 0), -3);
        due("holds below the first place", x.holds(t, -1), -20);
        for (int place = 0; place < n; place++) {
            due("at first place " + place + " of " + n, x.holds(t, place), -1);
            int leaf = x.leaf(t, place, place);
            due("then", x.holds(t, place), leaf);
        }
        due("leaf above the last place", x.leaf(t, n, 0), -3);
        due("holds above the last place", x.holds(t, n), -20);
        due("the last place", x.thing(x.holds(t, n - 1), 3), n - 1);
    }

    private static void placesOfABox() {
        DUE.sentence("BOX (1 to 8 PLACES)");
        House x = new House();
        x.root(0, 1);
        due("box(0, 0, 0)", x.box(0, 0, 0), -4);
        for (int n = 1; n <= 8; n++) duePlaces(x, x.box(0, 0, n), n);
        due("box(0, 0, 9)", x.box(0, 0, 9), -6);
    }

    private static void placesOfARoot() {
        DUE.sentence("ROOT (PLACES, too)");
        House x = new House();
        due("root(2, 0)", x.root(2, 0), -4);
        for (int n = 1; n <= 8; n++) duePlaces(x, x.root(2, n), n);
        due("root(2, 9)", x.root(2, 9), -6);
    }

    private static void elements() {
        DUE.sentence("a ROW: 0 to 32 elements, all 0");
        House x = new House();
        x.root(0, 1);
        due("row of -1", x.row(0, 0, 2, -1), -4);
        due("no row", x.holds(0, 0), -1);
        for (int n : new int[] {0, 1, 2, 31, 32}) {
            due("row of " + n, x.row(0, 0, 2, n), 1);
            for (int i = 0; i < n; i++) due("at first", x.element(0, 0, i), 0);
            due("below the first", x.set(0, 0, -1, 5), -3);
            due("the last of " + n, x.set(0, 0, n - 1, 5), n == 0 ? -3 : 1);
            due("the first of " + n, x.set(0, 0, 0, 6), n == 0 ? -3 : 1);
            due("above the last of " + n, x.set(0, 0, n, 5), -3);
            due("element 0", x.element(0, 0, 0), n == 0 ? 0 : 6);
            due("element n - 1", x.element(0, 0, n - 1), n == 0 ? 0 : n == 1 ? 6 : 5);
            due("element n", x.element(0, 0, n), 0);
            due("element -1", x.element(0, 0, -1), 0);
        }
        due("row of 33", x.row(0, 0, 2, 33), -6);
        due("the row of 32 is there still", x.element(0, 0, 31), 5);
    }

    private static void sorts() {
        DUE.sentence("a SORT (0 bytes, 1 shorts, 2 ints, 3 longs)");
        House x = new House();
        x.root(0, 1);
        due("sort -1", x.row(0, 0, -1, 1), -2);
        due("no row", x.holds(0, 0), -1);
        for (int sort = 0; sort <= 3; sort++) {
            due("sort " + sort, x.row(0, 0, sort, 1), 1);
            due("what it holds", x.holds(0, 0), -10 - sort);
        }
        due("sort 4", x.row(0, 0, 4, 1), -2);
        due("the row is there still", x.holds(0, 0), -13);
    }

    /** Pairs of a value and what becomes of it. */
    private static void dueBits(int sort, long... pairs) {
        DUE.sentence("its lowest bits, as the SORT has them: SORT " + sort);
        House x = new House();
        x.root(0, 1);
        x.row(0, 0, sort, 3);
        for (int k = 0; k < pairs.length; k += 2) {
            due("set " + pairs[k], x.set(0, 0, 1, pairs[k]), 1);
            due("element after " + pairs[k], x.element(0, 0, 1), pairs[k + 1]);
        }
        due("the one ahead", x.element(0, 0, 0), 0);
        due("the one behind", x.element(0, 0, 2), 0);
    }

    private static void bitsOfBytes() {
        dueBits(0, 126, 126, 127, 127, 128, -128, 129, -127, 255, -1, 256, 0, 257, 1, 300, 44, -1, -1, -127, -127,
            -128, -128, -129, 127, -256, 0, 32767, -1, 65408, -128, 1L << 31, 0, 0x1234567890abcdefL, -17,
            Long.MAX_VALUE, -1, Long.MIN_VALUE, 0);
    }

    private static void bitsOfShorts() {
        dueBits(1, 127, 127, 128, 128, 255, 255, 256, 256, 32766, 32766, 32767, 32767, 32768, -32768, 65535, -1, 65536, 0,
            65537, 1, -32768, -32768, -32769, 32767, -65536, 0, 1L << 31, 0, 0x1234567890abcdefL, -12817,
            Long.MAX_VALUE, -1, Long.MIN_VALUE, 0);
    }

    private static void bitsOfInts() {
        dueBits(2, 32768, 32768, 65536, 65536, 2147483646L, 2147483646L, 2147483647L, 2147483647L,
            2147483648L, -2147483648L, 4294967295L, -1, 4294967296L, 0, 4294967297L, 1, -2147483648L, -2147483648L,
            -2147483649L, 2147483647L, -4294967296L, 0, 0x1234567890abcdefL, -1867788817L,
            Long.MAX_VALUE, -1, Long.MIN_VALUE, 0);
    }

    private static void bitsOfLongs() {
        dueBits(3, 0, 0, -1, -1, 2147483648L, 2147483648L, 4294967296L, 4294967296L, -2147483649L, -2147483649L,
            0x1234567890abcdefL, 0x1234567890abcdefL, Long.MAX_VALUE, Long.MAX_VALUE, Long.MIN_VALUE, Long.MIN_VALUE);
    }

    /** A row of 32 longs 100, 101, .. in place 0, a row of 5 in place 1, one of 0 in place 2. */
    private static House withLongRow() {
        House x = new House();
        x.root(0, 3);
        x.row(0, 0, 3, 32);
        x.row(0, 1, 3, 5);
        x.row(0, 2, 3, 0);
        for (int i = 0; i < 32; i++) x.set(0, 0, i, 100 + i);
        return x;
    }

    private static void copyBounds() {
        DUE.sentence("Elements i, i + 1, .. become elements 0, 1, .., n of them");
        House x = withLongRow();
        due("the last five", x.copy(0, 0, 1, 27, 5), 1);
        for (int i = 0; i < 5; i++) due("copied " + i, x.element(0, 1, i), 127 + i);
        due("one further", x.copy(0, 0, 1, 28, 5), -3);
        due("one more than there is room for", x.copy(0, 0, 1, 0, 6), -3);
        due("one less", x.copy(0, 0, 1, 0, 4), 1);
        due("the fifth as it was", x.element(0, 1, 4), 131);
        due("none, at the end", x.copy(0, 0, 1, 32, 0), 1);
        due("none, past the end", x.copy(0, 0, 1, 33, 0), -3);
        due("none to none", x.copy(0, 0, 2, 0, 0), 1);
        due("one to none", x.copy(0, 0, 2, 0, 1), -3);
        due("none from none", x.copy(0, 2, 0, 0, 0), 1);
        due("one from none", x.copy(0, 2, 0, 0, 1), -3);
        due("none from past none", x.copy(0, 2, 0, 1, 0), -3);
        due("all onto themselves", x.copy(0, 0, 0, 0, 32), 1);
        due("the first", x.element(0, 0, 0), 100);
        DUE.sentence("(Elements as they were ahead.)");
        due("all but the first", x.copy(0, 0, 0, 1, 31), 1);
        for (int i = 0; i < 31; i++) due("moved " + i, x.element(0, 0, i), 101 + i);
        due("the last stays", x.element(0, 0, 31), 131);
    }

    // ---- LETTERS

    private static void numbersOfLetters() {
        DUE.sentence("LETTERS have numbers, from 0 on");
        House x = House.after(Scenes::heldRing);
        due("of the ring", x.status(2), 2);
        due("the third", x.send(3, 1, 2), 2);
        x.doubt(3);
        due("a STEP has a number, too", x.letter(3, 0), 4);
        due("none further", x.letter(4, 0), -1);
    }

    /** With room for one LETTER less than it needs, a call is refused; with room for just those it is done. */
    private static void needsLetters(int need, String name, long answer, Scene ahead, int made, Call call) {
        UNCHANGED.refused(x -> fillBehind(x, ahead, made, 601 - need), -6, name, call);
        House x = House.after(h -> fillBehind(h, ahead, made, 600 - need));
        due(name + " with room for just " + need, call.on(x), answer);
        due("LETTERS after " + name, x.status(2), 600);
    }

    private static void fillBehind(House x, Scene ahead, int made, int upTo) {
        ahead.build(x);
        ManyLetters.fill(x, made, upTo);
    }

    private static void lastLetters() {
        DUE.sentence("600 LETTERS at most are ever made");
        int leaf = Scenes.LEAF;
        needsLetters(1, "send of a LEAF", 599, Scenes::corner, 4, x -> x.send(leaf, Scenes.ROOT1, 2));
        needsLetters(1, "send of a GATE", 599, Scenes::corner, 4, x -> x.send(Scenes.GATE, Scenes.ROOT2, 2));
        needsLetters(1, "send of a GATE of WEIGHT 1", 599, Scenes::weightOne, 10, x -> x.send(Scenes.GATE, Scenes.ROOT2, 2));
        needsLetters(1, "deliver of a MORE", 1, Scenes::withMore, 11, x -> x.deliver(10));
        needsLetters(1, "deliver of a GIVE", 1, Scenes::withGive, 12, x -> x.deliver(11));
        House x = House.after(h -> fillBehind(h, Scenes::corner, 4, 598));
        due("the 599th", x.send(leaf, Scenes.ROOT1, 2), 598);
        due("the 600th", x.send(leaf, Scenes.ROOT1, 2), 599);
        due("a 601st", x.send(leaf, Scenes.ROOT1, 2), -6);
        due("letter(599, 0)", x.letter(599, 0), 0);
        due("letter(600, 0)", x.letter(600, 0), -1);
        due("delivered ones make no room", x.deliver(599), 1);
        due("a 601st then", x.send(leaf, Scenes.ROOT1, 2), -6);
    }

    private static void lastLettersOfWalks() {
        DUE.sentence("600 LETTERS at most are ever made: of WALKS");
        needsLetters(1, "doubt", 14, Scenes::corner, 4, x -> x.doubt(Scenes.BOX));
        needsLetters(1, "deliver of a STEP with no gate", 1, Scenes::corner, 4, x -> x.deliver(Scenes.STEP));
        needsLetters(2, "deliver of a STEP with a gate", 1, Scenes::stepWithAGate, 3, x -> x.deliver(2));
        needsLetters(1, "deliver of a STEP for a PASSED one", 1, Scenes::stepForAPassedOne, 7, x -> x.deliver(5));
        needsLetters(1, "deliver of a STEP for a freed one", 1, Scenes::stepForAFreedOne, 12, x -> x.deliver(10));
    }

    /** The corner with two gates of host 1 to be freed. */
    private static void twoFarGates(House x) {
        Scenes.corner(x);
        x.clear(Scenes.ROOT1, 0);
    }

    private static void lastLettersOfCleaning() {
        DUE.sentence("clean: -6 LETTERS");
        needsLetters(1, "clean that frees a gate", 1, Scenes::corner, 4, x -> x.clean(1));
        needsLetters(2, "clean that frees two gates", 2, BoundsTest::twoFarGates, 4, x -> x.clean(1));
        needsLetters(1, "clean that frees a gate and a box", 2, Scenes::brokenRing, 8, x -> x.clean(0));
    }

    private static void needsNoLetter(String name, long answer, Scene ahead, int made, Call call) {
        House x = House.after(h -> fillBehind(h, ahead, made, 600));
        due(name + ", all LETTERS made", call.on(x), answer);
        due("refusals", x.status(16), 0);
    }

    private static void whatNeedsNoLetter() {
        DUE.sentence("what makes no LETTER is done though 600 are made");
        needsNoLetter("deliver of a NAME", 1, Scenes::corner, 4, x -> x.deliver(Scenes.NAME_FOR_A_NEW_GATE));
        needsNoLetter("deliver of a HOME", 1, Scenes::withHome, 9, x -> x.deliver(8));
        needsNoLetter("deliver of a BACK", 1, Scenes::withBack, 5, x -> x.deliver(4));
        needsNoLetter("deliver again", 0, Scenes::corner, 4, x -> x.deliver(Scenes.DELIVERED));
        needsNoLetter("clean that frees no gate", 2, Scenes::corner, 4, x -> x.clean(0));
        needsNoLetter("clean that frees nothing", 0, Scenes::corner, 4, x -> x.clean(2));
        needsNoLetter("deliver of a STEP of an ended WALK", 1, Scenes::endedWalk, 10, x -> x.deliver(7));
        needsNoLetter("deliver of a BACK of an ended WALK", 1, Scenes::endedWalk, 10, x -> x.deliver(8));
        needsNoLetter("put", 1, Scenes::corner, 4, x -> x.put(Scenes.ROOT0, 3, Scenes.LEAF));
    }

    // ---- WEIGHTS and names that WAIT

    /** Sends gate t on, and asks for its WEIGHT and that of the letter's. */
    private static void dueHalf(House x, int t, int kept, int sent) {
        int l = x.send(t, Scenes.ROOT2, 2);
        due("a NAME", x.letter(l, 0), 0);
        due("what it has of " + (kept + sent), x.letter(l, 5), sent);
        due("what is kept of " + (kept + sent), x.thing(t, 5), kept);
    }

    private static void weights() {
        DUE.sentence("A GATE of WEIGHT w, 2 or more, keeps w - w / 2 (cut), and a NAME with w / 2 goes; of WEIGHT 1: the name WAITS");
        House x = House.after(Scenes::corner);
        due("exit", x.thing(Scenes.BOX, 6), 64);
        for (int half = 32; half >= 1; half /= 2) dueHalf(x, Scenes.GATE, half, half);
        due("none waits yet", x.status(5), 0);
        int more = x.send(Scenes.GATE, Scenes.ROOT2, 2);
        due("a MORE", x.letter(more, 0), 1);
        due("with its THING", x.letter(more, 4), Scenes.BOX);
        due("to that one's host", x.letter(more, 2), 0);
        due("without WEIGHT", x.letter(more, 5), 0);
        due("WEIGHT 1 is kept", x.thing(Scenes.GATE, 5), 1);
        due("one waits", x.status(5), 1);
        due("the exit is as it was", x.thing(Scenes.BOX, 6), 64);
    }

    private static void oddWeights() {
        DUE.sentence("keeps w - w / 2 (cut): odd ones");
        House x = House.after(Scenes::withGive);
        due("GIVE", x.deliver(11), 1);
        due("of 65 goes", x.letter(12, 5), 32);
        due("of 65 is kept", x.thing(Scenes.GATE, 5), 33);
        int[] kept = {17, 9, 5, 3, 2, 1};
        int[] sent = {16, 8, 4, 2, 1, 1};
        for (int i = 0; i < kept.length; i++) dueHalf(x, Scenes.GATE, kept[i], sent[i]);
        due("then it waits", x.letter(x.send(Scenes.GATE, Scenes.ROOT2, 2), 0), 1);
    }

    private static void waitingNames() {
        DUE.sentence("16 at most do");
        House x = House.after(Scenes::weightOne);
        for (int n = 1; n <= 16; n++) {
            due("send", x.send(Scenes.GATE, Scenes.ROOT2, 2), 9 + n);
            due("wait", x.status(5), n);
        }
        due("a 17th", x.send(Scenes.GATE, Scenes.ROOT2, 2), -6);
        due("wait then", x.status(5), 16);
        due("letters", x.status(2), 26);
        due("one that need not wait is sent", x.send(Scenes.BOX, Scenes.ROOT2, 2), 26);
    }

    private static void waitingNamesOfTwoGates() {
        DUE.sentence("16 at most do, for all GATES together");
        House x = House.after(Scenes::weightOne);
        x.deliver(x.send(Scenes.LEAF, Scenes.ROOT1, 1));
        due("FAR_GATE is near now", x.thing(Scenes.FAR_GATE, 5), 128);
        for (int i = 0; i < 7; i++) x.send(Scenes.FAR_GATE, Scenes.ROOT2, 2);
        for (int i = 0; i < 8; i++) {
            x.send(Scenes.GATE, Scenes.ROOT2, 2);
            x.send(Scenes.FAR_GATE, Scenes.ROOT2, 2);
        }
        due("wait", x.status(5), 16);
        due("one more for the first", x.send(Scenes.GATE, Scenes.ROOT2, 2), -6);
        due("one more for the second", x.send(Scenes.FAR_GATE, Scenes.ROOT2, 2), -6);
    }

    private static void waitingNamesMakeRoom() {
        DUE.sentence("the first name that WAITS there for that GATE does not any more");
        House x = House.after(Scenes::allWaiting);
        due("the first MORE", x.deliver(10), 1);
        due("16 wait still", x.status(5), 16);
        due("the GIVE", x.deliver(26), 1);
        due("15 wait", x.status(5), 15);
        for (int weight : new int[] {33, 17, 9, 5, 3, 2}) {
            due("its WEIGHT", x.thing(Scenes.GATE, 5), weight);
            x.send(Scenes.GATE, Scenes.ROOT2, 2);
        }
        due("15 wait still", x.status(5), 15);
        due("a 16th again", x.letter(x.send(Scenes.GATE, Scenes.ROOT2, 2), 0), 1);
        due("a 17th", x.send(Scenes.GATE, Scenes.ROOT2, 2), -6);
    }

    // ---- WALKS

    private static void walks() {
        DUE.sentence("20 WALKS at most are ever begun; they have numbers, from 0 on");
        House x = House.after(Scenes::heldRing);
        for (int w = 0; w < 20; w++) {
            due("walk(" + w + ", 0) ahead", x.walk(w, 0), -1);
            due("doubt", x.doubt(3), w);
            due("walk(" + w + ", 1)", x.walk(w, 1), 3);
        }
        due("a 21st", x.doubt(3), -6);
        due("of another THING", x.doubt(4), -6);
        due("walk(20, 0)", x.walk(20, 0), -1);
        due("walk(-1, 0)", x.walk(-1, 0), -1);
        due("walks", x.status(4), 20);
        due("letters", x.status(2), 22);
    }

    private static void endedWalksCount() {
        DUE.sentence("20 WALKS at most are ever begun: ended ones, too");
        House x = House.after(Scenes::corner);
        x.deliver(Scenes.STEP);
        x.deliver(4);
        due("the first ended", x.walk(0, 0), 1);
        for (int w = 1; w < 20; w++) {
            due("doubt", x.doubt(Scenes.BOX), w);
            x.deliver(3 + 2 * w);
            x.deliver(4 + 2 * w);
            due("it ended", x.walk(w, 0), 1);
        }
        due("a 21st", x.doubt(Scenes.BOX), -6);
    }
}
