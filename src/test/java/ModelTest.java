import java.util.ArrayList;
import java.util.Arrays;
import java.util.HashSet;
import java.util.List;
import java.util.Map;
import java.util.Random;
import java.util.Set;
import java.util.function.IntSupplier;

/**
 * Random runs of calls, each held against the Model. An object has 512 calls:
 * a run takes most of them, and what is asked of it then is asked of new
 * objects on which the run is made again.
 */
public final class ModelTest {
    private static final int MOST_CHANGES = 450;
    private static final int[] ODD = {-1, 0, 1, 8, 9, 31, 32, 33, 300, Integer.MAX_VALUE, Integer.MIN_VALUE, -2};

    /** How often each call comes: root leaf box put clear row set copy send deliver clean doubt. */
    private enum Mood {
        EVEN(3, 4, 10, 14, 10, 4, 6, 4, 20, 40, 4, 6),
        RINGS(2, 1, 8, 20, 14, 0, 0, 0, 18, 50, 3, 12),
        MANY_THINGS(6, 90, 40, 2, 1, 0, 1, 0, 6, 8, 1, 0),
        MANY_LETTERS(4, 1, 6, 10, 3, 0, 0, 0, 45, 30, 4, 14),
        MANY_WAIT(4, 1, 3, 3, 1, 0, 0, 0, 60, 24, 2, 2),
        ROWS(1, 2, 4, 4, 4, 20, 40, 30, 2, 4, 2, 1);

        final int[] often;

        Mood(int... often) {
            this.often = often;
        }
    }

    private final Due due;
    private final House real = new House();
    private final Model model = new Model();
    private final List<Call> made = new ArrayList<>();
    private final Random random;
    private final Mood mood;
    private final int hosts;
    private final int oddness;
    private final String title;
    private final boolean[] full = new boolean[4];
    private House again = null;

    private static final int[] endings = new int[4];
    private static final int[] refusals = new int[8];
    private static final int[] fullRooms = new int[4];
    private static int freedInAll = 0;

    private ModelTest(Due due, Mood mood, int seed) {
        this.due = due;
        this.mood = mood;
        this.random = new Random(seed * 1000L + mood.ordinal());
        this.hosts = 2 + random.nextInt(seed % 3 == 0 ? 7 : 2);
        this.oddness = seed % 4 == 0 ? 12 : 60;
        this.title = mood + " " + seed + ": ";
    }

    public static void main(String[] args) {
        Due due = new Due();
        for (Mood mood : Mood.values()) {
            for (int seed = 0; seed < 90 && !due.hasWrong(); seed++) new ModelTest(due, mood, seed).run(seed % 5 == 0);
        }
        for (int ending = 1; ending <= 3; ending++) due.due("walks that ended so", endings[ending] > 20, true);
        for (int code = 1; code <= 7; code++) due.due("refusals of one number", refusals[code] > 20, true);
        for (int full : fullRooms) due.due("runs that filled a room", full > 5, true);
        due.due("things were freed", freedInAll > 1000, true);
        System.out.println("walks ended " + Arrays.toString(endings) + ", refusals " + Arrays.toString(refusals)
            + ", full of THINGS, LETTERS, names that WAIT, WALKS " + Arrays.toString(fullRooms));
        due.end();
    }

    private void run(boolean asksAll) {
        for (int host = 0; host < Math.min(hosts, 8); host++) root(host, 8);
        if (mood == Mood.MANY_LETTERS) walkOverManyGates();
        for (int call = 0; made.size() < MOST_CHANGES && !due.hasWrong(); call++) {
            change();
            if (random.nextInt(80) == 0) letGo();
            if (mood == Mood.RINGS && random.nextInt(25) == 0) ring();
            if (call % 8 == 0) compareLittle();
        }
        compareLittle();
        if (asksAll) compareAll();
        for (Model.W w : model.walks) endings[w.end]++;
        for (int code = 1; code <= 7; code++) refusals[code] += model.refused[code];
        for (int room = 0; room < full.length; room++) fullRooms[room] += full[room] ? 1 : 0;
    }

    /** Root 1 leads to 32 gates, and is walked over and over: some 500 letters in 140 calls. */
    private void walkOverManyGates() {
        for (int r = 0; r < 4; r++) {
            int root = model.things.size();
            root(1, 8);
            put(1, r, root);
            for (int place = 0; place < 8; place++) {
                leaf(0, 7, place);
                send(model.things.size() - 1, root, place);
                deliver(model.letters.size() - 1);
            }
        }
        send(1, 0, 6);
        for (int w = 0; w < 14; w++) {
            doubt(1);
            deliver(model.letters.size() - 1);
        }
    }

    /** A ring of two new boxes of hosts 0 and 1, mostly let go by their roots, and perhaps doubted. */
    private void ring() {
        int box = model.things.size();
        box(0, 4, 3);
        box(1, 4, 3);
        for (int end = 0; end < 2; end++) {
            send(box + end, 1 - end, 5);
            deliver(model.letters.size() - 1);
            put(box + 1 - end, 0, model.gate(1 - end, box + end));
        }
        for (int i = random.nextInt(6); i > 0; i--) change();
        for (int place = 4; place <= 5; place++) {
            for (int root = 0; root < 2; root++) if (random.nextInt(8) > 0) clear(root, place);
        }
        if (random.nextInt(2) == 0) doubt(box + random.nextInt(2));
        deliverAll(4, 5);
    }

    private void noteFullRooms() {
        full[0] |= model.things.size() == 300;
        full[1] |= model.letters.size() == 600;
        full[2] |= model.waiting.size() == 16;
        full[3] |= model.walks.size() == 20;
    }

    /** Makes a call on the object and on the model, while the run has calls left; answers NONE when it has none. */
    private int make(String name, Call call, IntSupplier modelCall) {
        if (made.size() >= MOST_CHANGES) return FarHold.NONE;
        int want = modelCall.getAsInt();
        due.due(title + name, call.on(real), want);
        made.add(call);
        again = null;
        noteFullRooms();
        return want;
    }

    /** An object on which the run was made, with calls left to ask. */
    private House asked() {
        if (again == null || again.callsLeft() == 0) {
            again = new House();
            for (Call call : made) call.on(again);
        }
        return again;
    }

    private int odd(int usual) {
        return random.nextInt(oddness) == 0 ? ODD[random.nextInt(ODD.length)] : usual;
    }

    private int upTo(int bound) {
        return odd(random.nextInt(Math.max(1, bound)));
    }

    private int anyThing() {
        return upTo(model.things.size() + 1);
    }

    private int thingOfKind(int first, int second) {
        List<Integer> some = new ArrayList<>();
        for (Model.T t : model.things) if (!t.freed && (t.kind == first || t.kind == second)) some.add(t.number);
        return some.isEmpty() ? anyThing() : odd(some.get(random.nextInt(some.size())));
    }

    private int aLetter() {
        for (int tries = 0; tries < 12 && !model.letters.isEmpty(); tries++) {
            int n = random.nextInt(model.letters.size());
            if (!model.letters.get(n).delivered) return odd(n);
        }
        return upTo(model.letters.size() + 1);
    }

    private int pickCall() {
        int all = 0;
        for (int often : mood.often) all += often;
        int at = random.nextInt(all);
        int call = 0;
        while (at >= mood.often[call]) at -= mood.often[call++];
        return call;
    }

    private void change() {
        int box = mood == Mood.MANY_THINGS ? thingOfKind(2, 2) : thingOfKind(1, 2);
        int place = upTo(Math.min(5, model.thing(box, 2)));
        switch (pickCall()) {
            case 0 -> root(upTo(hosts), odd(1 + random.nextInt(8)));
            case 1 -> leaf(box, place, random.nextInt());
            case 2 -> box(box, place, odd(1 + random.nextInt(8)));
            case 3 -> putSome(box, place);
            case 4 -> clear(box, place);
            case 5 -> row(box, place, upTo(4), odd(random.nextInt(9)));
            case 6 -> set(box, place, upTo(9), random.nextLong());
            case 7 -> copy(box, place, upTo(4), upTo(4), upTo(5));
            case 8 -> sendSome();
            case 9 -> deliver(aLetter());
            case 10 -> clean();
            default -> doubtSome();
        }
    }

    private void root(int host, int n) {
        make("root(" + host + ", " + n + ")", x -> x.root(host, n), () -> model.root(host, n));
    }

    private void leaf(int box, int place, int mark) {
        make("leaf(" + box + ", " + place + ", " + mark + ")", x -> x.leaf(box, place, mark), () -> model.leaf(box, place, mark));
    }

    private void box(int box, int place, int n) {
        make("box(" + box + ", " + place + ", " + n + ")", x -> x.box(box, place, n), () -> model.box(box, place, n));
    }

    private void clear(int box, int place) {
        make("clear(" + box + ", " + place + ")", x -> x.clear(box, place), () -> model.clear(box, place));
    }

    private void row(int box, int place, int sort, int n) {
        make("row(" + box + ", " + place + ", " + sort + ", " + n + ")",
            x -> x.row(box, place, sort, n), () -> model.row(box, place, sort, n));
    }

    private void set(int box, int place, int i, long v) {
        make("set(" + box + ", " + place + ", " + i + ", " + v + ")",
            x -> x.set(box, place, i, v), () -> model.set(box, place, i, v));
    }

    private void copy(int box, int p, int q, int i, int n) {
        make("copy(" + box + ", " + p + ", " + q + ", " + i + ", " + n + ")",
            x -> x.copy(box, p, q, i, n), () -> model.copy(box, p, q, i, n));
    }

    private void deliver(int l) {
        make("deliver(" + l + ")", x -> x.deliver(l), () -> model.deliver(l));
    }

    private void put(int box, int place, int thing) {
        make("put(" + box + ", " + place + ", " + thing + ")", x -> x.put(box, place, thing), () -> model.put(box, place, thing));
    }

    private void putSome(int box, int place) {
        int thing = random.nextInt(2) == 0 ? thingOfKind(3, 3) : thingOfKind(1, 1);
        Model.T b = model.there(box);
        for (int tries = 0; tries < 8 && b != null; tries++) {
            Model.T t = model.there(thing);
            if (t != null && t.host == b.host) break;
            thing = anyThing();
        }
        put(box, place, thing);
    }

    private void send(int thing, int root, int place) {
        make("send(" + thing + ", " + root + ", " + place + ")",
            x -> x.send(thing, root, place), () -> model.send(thing, root, place));
    }

    private void sendSome() {
        int thing = mood == Mood.MANY_WAIT ? gateOfLittleWeight() : thingOfKind(1, 3);
        int root = thingOfKind(2, 2);
        send(thing, root, upTo(Math.min(5, model.thing(root, 2))));
    }

    private int gateOfLittleWeight() {
        int best = thingOfKind(3, 3);
        for (int tries = 0; tries < 6; tries++) {
            int other = thingOfKind(3, 3);
            if (model.thing(other, 0) == 3 && model.thing(other, 5) < model.thing(best, 5)) best = other;
        }
        return best;
    }

    private void clean() {
        int host = upTo(hosts);
        Set<Model.T> meant = new HashSet<>(model.meantOnes());
        int answer = make("clean(" + host + ")", x -> x.clean(host), () -> model.clean(host));
        for (int n : model.freedNow) {
            if (answer > 0) due.due(title + "nothing is freed that is still meant", meant.contains(model.things.get(n)), false);
        }
        freedInAll += Math.max(0, answer);
    }

    private void doubt(int thing) {
        make("doubt(" + thing + ")", x -> x.doubt(thing), () -> model.doubt(thing));
    }

    private void doubtSome() {
        boolean walksOn = random.nextInt(3) == 0;
        if (walksOn) deliverAll(0, 3);
        doubt(thingToDoubt());
        if (walksOn) deliverAll(4, 5);
    }

    private int thingToDoubt() {
        boolean unmeant = random.nextInt(3) > 0;
        Set<Model.T> meant = model.meantOnes();
        int thing = thingOfKind(1, 1);
        for (int tries = 0; tries < 60; tries++) {
            Model.T t = model.there(thing);
            if (t != null && t.exit > 0 && !(unmeant && meant.contains(t))) break;
            thing = anyThing();
        }
        return thing;
    }

    /** Delivers letters of some kinds, mostly in a random order: so walks can end with no change between. */
    private void deliverAll(int leastKind, int mostKind) {
        for (int tries = 0; tries < 300; tries++) {
            int l = random.nextInt(Math.max(1, model.letters.size()));
            int kind = model.letter(l, 0);
            if (kind >= leastKind && kind <= mostKind && model.letter(l, 1) == 1) deliver(l);
        }
    }

    /** Takes most of what roots hold away, so that rings over hosts are left alone. */
    private void letGo() {
        for (int n = 0; n < model.things.size(); n++) {
            if (model.thing(n, 0) != 2) continue;
            for (int place = 0; place < 8; place++) {
                if (model.holds(n, place) >= 0 && random.nextInt(5) > 0) clear(n, place);
            }
        }
    }

    private void compareLittle() {
        for (int what = -1; what <= 18; what++) due.due(title + "status(" + what + ")", asked().status(what), model.status(what));
        int t = anyThing();
        int what = upTo(9);
        due.due(title + "thing(" + t + ", " + what + ")", asked().thing(t, what), model.thing(t, what));
        due.due(title + "meant(" + t + ")", asked().meant(t), model.meant(t));
        due.due(title + "audit(" + t + ", " + what + ")", asked().audit(t, what), model.audit(t, what));
        int l = upTo(model.letters.size() + 1);
        due.due(title + "letter(" + l + ", " + what + ")", asked().letter(l, what), model.letter(l, what));
        int w = upTo(model.walks.size() + 1);
        due.due(title + "walk(" + w + ", " + what + ")", asked().walk(w, what), model.walk(w, what));
        int i = upTo(4);
        due.due(title + "freed(" + i + ")", asked().freed(i), model.freed(i));
        due.due(title + "dead(" + i + ")", asked().dead(i), model.dead(i));
        due.due(title + "why(" + t + ", " + i + ")", asked().why(t, i), model.why(t, i));
        due.due(title + "gate(" + i + ", " + t + ")", asked().gate(i, t), model.gate(i, t));
    }

    private void compareAll() {
        Map<Integer, List<Integer>> rows = model.rowsOfMeaning();
        for (int t = -1; t <= model.things.size(); t++) {
            for (int what = -1; what <= 8; what++) due.due(title + "thing(" + t + ", " + what + ")", asked().thing(t, what), model.thing(t, what));
            for (int place = -1; place <= 8; place++) comparePlace(t, place);
            for (int host = -1; host <= 8; host++) due.due(title + "gate(" + host + ", " + t + ")", asked().gate(host, t), model.gate(host, t));
            compareMeaning(t, rows.get(t));
        }
        for (int l = -1; l <= model.letters.size(); l++) {
            for (int what = -1; what <= 10; what++) due.due(title + "letter(" + l + ", " + what + ")", asked().letter(l, what), model.letter(l, what));
        }
        for (int w = -1; w <= model.walks.size(); w++) {
            for (int what = -1; what <= 6; what++) due.due(title + "walk(" + w + ", " + what + ")", asked().walk(w, what), model.walk(w, what));
        }
        for (int i = -1; i <= model.freedNow.size(); i++) due.due(title + "freed(" + i + ")", asked().freed(i), model.freed(i));
    }

    private void comparePlace(int t, int place) {
        due.due(title + "holds(" + t + ", " + place + ")", asked().holds(t, place), model.holds(t, place));
        for (int i = -1; i <= 9; i++) {
            due.due(title + "element(" + t + ", " + place + ", " + i + ")", asked().element(t, place, i), model.element(t, place, i));
        }
    }

    private void compareMeaning(int t, List<Integer> row) {
        boolean isMeant = model.meant(t);
        due.due(title + "meant(" + t + ")", asked().meant(t), isMeant);
        due.due(title + "a row of meaning for " + t, row != null && model.there(t) != null, isMeant);
        int size = isMeant && row != null ? row.size() : 0;
        for (int i = -1; i <= size; i++) {
            int want = i >= 0 && i < size ? row.get(i) : -1;
            due.due(title + "why(" + t + ", " + i + ")", asked().why(t, i), want);
        }
        int exit = asked().audit(t, 0);
        due.due(title + "audit(" + t + ", 1) is its EXIT", asked().audit(t, 1), exit);
        due.due(title + "audit(" + t + ", 1)", exit, model.audit(t, 1));
    }
}
