/** Promises 14 to 16: sending, delivering, and what is told of letters. */
public final class LettersTest {
    private static final Due DUE = new Due();

    public static void main(String[] args) {
        sendRefused();
        nameOfAThing();
        nameToAGateThatIsThere();
        nameFromAGate();
        weightOneWaits();
        firstThatWaitsForTheGate();
        roomForWaiting();
        deliverRefused();
        lettersTold();
        rootsAreSentToo();
        DUE.end();
    }

    private static void due(String call, long got, long want) {
        DUE.due(call, got, want);
    }

    private static void dueLetter(House x, int l, int... want) {
        for (int what = 0; what < want.length; what++) {
            due("letter(" + l + ", " + what + ")", x.letter(l, what), want[what]);
        }
    }

    /** Root h of each host h 0 to 2, leaf 3 in root 0. */
    private static House threeHosts() {
        House x = new House();
        for (int host = 0; host < 3; host++) x.root(host, 8);
        x.leaf(0, 0, 7);
        return x;
    }

    private static void sendRefused() {
        DUE.sentence("send: its refusals");
        House x = threeHosts();
        x.box(0, 1, 1);
        x.clear(0, 1);
        due("send(9, 1, 0)", x.send(9, 1, 0), -1);
        due("send(3, 9, 0)", x.send(3, 9, 0), -1);
        due("send(3, -1, 0)", x.send(3, -1, 0), -1);
        due("send to a leaf", x.send(4, 3, 9), -2);
        due("send to a box", x.send(3, 4, 9), -2);
        due("send(3, 1, 8)", x.send(3, 1, 8), -3);
        due("send(4, 0, -1)", x.send(4, 0, -1), -3);
        due("send one that is not near", x.send(4, 1, 0), -5);
        due("send to its own host", x.send(3, 0, 0), -5);
        due("no letters", x.status(2), 0);
        due("no exit", x.thing(3, 6), 0);
        x.clean(0);
        due("send a freed one", x.send(4, 1, 0), -1);
    }

    private static void nameOfAThing() {
        DUE.sentence("if x is no GATE, 64 are added to its EXIT, and a NAME with x and 64 goes to the ROOT's HOST");
        House x = threeHosts();
        due("send(3, 1, 2)", x.send(3, 1, 2), 0);
        due("exit", x.thing(3, 6), 64);
        due("send(3, 2, 3)", x.send(3, 2, 3), 1);
        due("exit then", x.thing(3, 6), 128);
        dueLetter(x, 0, 0, 1, 1, 0, 3, 64, 1, 2, -1, 0, -1);
        dueLetter(x, 1, 0, 1, 2, 0, 3, 64, 2, 3, -1, 0, -1);
        due("nothing yet", x.holds(1, 2), -1);
        due("deliver(1)", x.deliver(1), 1);
        due("letter(1, 1)", x.letter(1, 1), 0);
        due("a gate", x.gate(2, 3), 4);
        due("its place", x.holds(2, 3), 4);
        due("deliver(1) again", x.deliver(1), 0);
        due("its weight", x.thing(4, 5), 64);
        due("exit as it was", x.thing(3, 6), 128);
        due("again", x.status(6), 1);
    }

    private static void nameToAGateThatIsThere() {
        DUE.sentence("the HOST's GATE for the THING gets its WEIGHT more");
        House x = threeHosts();
        x.send(3, 1, 0);
        x.send(3, 1, 1);
        x.row(1, 1, 0, 2);
        x.deliver(0);
        due("deliver(1)", x.deliver(1), 1);
        due("one gate of a host for a thing", x.holds(1, 1), x.holds(1, 0));
        due("weight", x.thing(4, 5), 128);
        due("things", x.status(0), 5);
    }

    private static void nameFromAGate() {
        DUE.sentence("A GATE of WEIGHT w, 2 or more, keeps w - w / 2 (cut), and a NAME with its THING and w / 2 goes");
        House x = threeHosts();
        x.send(3, 1, 0);
        x.deliver(0);
        due("a gate of 64 on", x.send(4, 2, 0), 1);
        dueLetter(x, 1, 0, 1, 2, 1, 3, 32, 2, 0, -1, 0);
        due("it keeps", x.thing(4, 5), 32);
        due("exit as it was", x.thing(3, 6), 64);
        due("a gate of 32 home", x.send(4, 0, 1), 2);
        dueLetter(x, 2, 0, 1, 0, 1, 3, 16, 0, 1, -1, 0);
        due("deliver at its own host", x.deliver(2), 1);
        due("the thing, not a gate", x.holds(0, 1), 3);
        due("exit less", x.thing(3, 6), 48);
        due("gate at its own host", x.gate(0, 3), -1);
        for (int weight = 16; weight > 1; weight /= 2) x.send(4, 2, 1);
        due("down to 1", x.thing(4, 5), 1);
        x.send(3, 1, 0);
        x.deliver(x.status(2) - 1);
        due("65", x.thing(4, 5), 65);
        due("65 is cut", x.letter(x.send(4, 2, 2), 5), 32);
        due("33 stay", x.thing(4, 5), 33);
    }

    /** Gate 4 of host 1 for leaf 3, with weight 1, by letters 0 to 6. */
    private static House withWeightOne() {
        House x = threeHosts();
        x.send(3, 1, 0);
        x.deliver(0);
        for (int l = 1; l <= 6; l++) x.send(4, 2, 1);
        return x;
    }

    private static void weightOneWaits() {
        DUE.sentence("A GATE of WEIGHT 1: the name WAITS, and a MORE with its THING goes to that one's HOST");
        House x = withWeightOne();
        due("weight", x.thing(4, 5), 1);
        due("send(4, 2, 5)", x.send(4, 2, 5), 7);
        dueLetter(x, 7, 1, 1, 0, 1, 3, 0, -1, -1, -1, 0, -1);
        due("one waits", x.status(5), 1);
        x.clear(1, 0);
        due("a gate for which a name waits is kept", x.clean(1), 0);
        due("deliver the MORE", x.deliver(7), 1);
        due("exit", x.thing(3, 6), 128);
        dueLetter(x, 8, 2, 1, 1, 0, 3, 64, -1, -1, -1, 0, -1);
        due("deliver the MORE again", x.deliver(7), 0);
        due("it still waits", x.status(5), 1);
        due("deliver the GIVE", x.deliver(8), 1);
        due("none waits", x.status(5), 0);
        dueLetter(x, 9, 0, 1, 2, 1, 3, 32, 2, 5, -1, 0, -1);
        due("weight then", x.thing(4, 5), 33);
        due("deliver the NAME", x.deliver(9), 1);
        due("its place", x.holds(2, 5), x.gate(2, 3));
        due("now it is freed", x.clean(1), 1);
        dueLetter(x, 10, 3, 1, 0, 1, 3, 33, -1, -1, -1, 0, -1);
        due("deliver the HOME", x.deliver(10), 1);
        due("exit less", x.thing(3, 6), 95);
        due("all weight is told", x.audit(3, 1), 95);
    }

    private static void firstThatWaitsForTheGate() {
        DUE.sentence("the first name that WAITS there for that GATE does not any more: it is SENT, as told");
        House x = withWeightOne();
        x.leaf(0, 1, 8);
        x.send(5, 1, 1);
        x.deliver(7);
        for (int l = 8; l <= 13; l++) x.send(6, 2, 2);
        due("first", x.send(4, 2, 3), 14);
        due("second", x.send(6, 2, 4), 15);
        due("third", x.send(4, 0, 5), 16);
        due("three wait", x.status(5), 3);
        x.deliver(15);
        x.deliver(16);
        x.deliver(14);
        due("the GIVE for the other gate", x.letter(17, 4), 5);
        x.deliver(17);
        dueLetter(x, 20, 0, 1, 2, 1, 5, 32, 2, 4);
        due("two wait", x.status(5), 2);
        x.deliver(19);
        dueLetter(x, 21, 0, 1, 2, 1, 3, 32, 2, 3);
        due("33 stay", x.thing(4, 5), 33);
        x.deliver(18);
        dueLetter(x, 22, 0, 1, 0, 1, 3, 48, 0, 5);
        due("49 stay", x.thing(4, 5), 49);
        due("none waits", x.status(5), 0);
    }

    private static void roomForWaiting() {
        DUE.sentence("16 at most do, in order");
        House x = withWeightOne();
        for (int l = 7; l < 23; l++) due("it waits", x.send(4, 2, 1), l);
        due("16 wait", x.status(5), 16);
        due("a 17th", x.send(4, 2, 1), -6);
        due("16 wait still", x.status(5), 16);
        due("no letter of it", x.status(2), 23);
        due("a thing is sent all the same", x.send(3, 2, 1), 23);
        x.deliver(7);
        x.deliver(24);
        due("one less", x.status(5), 15);
        due("now the gate has weight", x.send(4, 2, 1), 26);
        due("its letter is a NAME", x.letter(26, 0), 0);
    }

    private static void deliverRefused() {
        DUE.sentence("deliver: -1; -6 (it is not, then)");
        House x = threeHosts();
        due("deliver(0)", x.deliver(0), -1);
        due("deliver(-1)", x.deliver(-1), -1);
        due("deliver(MAX)", x.deliver(Integer.MAX_VALUE), -1);
        due("deliver(MIN)", x.deliver(Integer.MIN_VALUE), -1);
        due("status(11)", x.status(11), 4);
        fullOfLetters();
    }

    /** With all 600 letters made, MORE, GIVE and STEP find no room; NAME, HOME and BACK need none. */
    private static void fullOfLetters() {
        House x = withWeightOne();
        x.send(4, 2, 2);
        x.send(4, 2, 3);
        x.deliver(7);
        int give = x.status(2) - 1;
        x.box(0, 2, 1);
        int walk = x.doubt(3);
        int step = x.status(2) - 1;
        x.deliver(step);
        int back = x.status(2) - 1;
        x.doubt(3);
        int secondStep = x.status(2) - 1;
        ManyLetters.fill(x, x.status(2), 599);
        int last = x.send(5, 2, 4);
        due("the 600th", last, 599);
        due("send", x.send(5, 2, 4), -6);
        due("send from a gate of weight 1", x.send(4, 2, 4), -6);
        due("exit as it was", x.audit(5, 0), x.audit(5, 1));
        int counts = x.status(7);
        due("deliver a MORE", x.deliver(8), -6);
        due("deliver a GIVE", x.deliver(give), -6);
        due("deliver a STEP", x.deliver(secondStep), -6);
        due("all are under way", x.letter(8, 1) + x.letter(give, 1) + x.letter(secondStep, 1), 3);
        due("nothing passed", x.walk(walk + 1, 4), 0);
        due("two wait", x.status(5), 2);
        due("weight as it was", x.thing(4, 5), 1);
        due("counts as they were", x.status(7), counts);
        due("doubt", x.doubt(3), -6);
        due("deliver a BACK", x.deliver(back), 1);
        due("deliver a NAME", x.deliver(last), 1);
        due("refusals", x.status(16), 6);
    }

    private static void lettersTold() {
        DUE.sentence("letter: NONE: no such LETTER, another what");
        House x = threeHosts();
        x.send(3, 1, 6);
        for (int what : new int[] {-1, 10, 11, Integer.MAX_VALUE, Integer.MIN_VALUE}) due("letter(0, " + what + ")", x.letter(0, what), -1);
        for (int what = -1; what <= 10; what++) {
            due("letter(1, " + what + ")", x.letter(1, what), -1);
            due("letter(-1, " + what + ")", x.letter(-1, what), -1);
        }
        x.doubt(3);
        dueLetter(x, 1, 4, 1, 0, 0, 3, 0, -1, -1, 0, 0, -1);
        x.deliver(1);
        dueLetter(x, 2, 5, 1, 0, 0, 3, 0, -1, -1, 0, 0, -1);
        due("not refused", x.status(11), 0);
    }

    private static void rootsAreSentToo() {
        DUE.sentence("SENDING a THING x: a ROOT, too");
        House x = threeHosts();
        due("send(0, 1, 0)", x.send(0, 1, 0), 0);
        x.deliver(0);
        due("a gate for a root", x.thing(x.holds(1, 0), 4), 0);
        due("send(4, 0, 7)", x.send(4, 0, 7), 1);
        x.deliver(1);
        due("a root that holds itself", x.holds(0, 7), 0);
    }
}
