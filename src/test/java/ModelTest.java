import java.util.Arrays;
import java.util.HashSet;
import java.util.List;
import java.util.Map;
import java.util.Random;
import java.util.Set;

/** Random runs of some 512 calls that change something, each held against the Model. */
public final class ModelTest {
    private static final int[] ODD = {-1, 0, 1, 8, 9, 31, 32, 33, 300, Integer.MAX_VALUE, Integer.MIN_VALUE, -2};

    /** How often each call comes: root leaf box put clear row set copy send deliver clean doubt. */
    private enum Mood {
        EVEN(3, 4, 10, 14, 10, 4, 6, 4, 20, 40, 4, 6),
        RINGS(2, 1, 8, 20, 14, 0, 0, 0, 18, 50, 3, 12),
        MANY_THINGS(6, 60, 30, 4, 1, 1, 1, 1, 8, 20, 1, 1),
        MANY_LETTERS(4, 1, 6, 10, 3, 0, 0, 0, 45, 30, 4, 14),
        MANY_WAIT(4, 1, 3, 3, 1, 0, 0, 0, 60, 24, 2, 2),
        ROWS(1, 2, 4, 4, 4, 20, 40, 30, 2, 4, 2, 1);

        final int[] often;

        Mood(int... often) {
            this.often = often;
        }
    }

    private final Due due;
    private final FarHold real = new FarHold();
    private final Model model = new Model();
    private final Random random;
    private final Mood mood;
    private final int hosts;
    private final int oddness;
    private final String title;

    private static final int[] endings = new int[4];
    private static final int[] refusals = new int[8];
    private static int freedInAll = 0;

    private ModelTest(Due due, Mood mood, int seed) {
        this.due = due;
        this.mood = mood;
        this.random = new Random(seed * 1000L + mood.ordinal());
        this.hosts = 2 + random.nextInt(seed % 3 == 0 ? 7 : 2);
        this.oddness = seed % 4 == 0 ? 12 : 60;
        this.title = mood + " " + seed + ": ";
    }

    public static void main(String[] args) {
        Due due = new Due();
        for (Mood mood : Mood.values()) {
            for (int seed = 0; seed < 60 && !due.hasWrong(); seed++) new ModelTest(due, mood, seed).run();
        }
        for (int ending = 1; ending <= 3; ending++) due.due("walks that ended so", endings[ending] > 20, true);
        for (int code = 1; code <= 7; code++) due.due("refusals of one number", refusals[code] > 20, true);
        due.due("things were freed", freedInAll > 1000, true);
        System.out.println("walks ended " + Arrays.toString(endings) + ", refusals " + Arrays.toString(refusals));
        due.end();
    }

    private void run() {
        for (int host = 0; host < Math.min(hosts, 8); host++) {
            due.due(title + "root", real.root(host, 8), model.root(host, 8));
        }
        for (int call = 8; call < 512 && !due.hasWrong(); call++) {
            change();
            compareLittle();
            if (random.nextInt(80) == 0) letGo();
            if (call % 64 == 0) compareAll();
        }
        compareAll();
        for (Model.W w : model.walks) endings[w.end]++;
        for (int code = 1; code <= 7; code++) refusals[code] += model.refused[code];
    }

    private int odd(int usual) {
        return random.nextInt(oddness) == 0 ? ODD[random.nextInt(ODD.length)] : usual;
    }

    private int upTo(int bound) {
        return odd(random.nextInt(Math.max(1, bound)));
    }

    private int anyThing() {
        return upTo(model.things.size() + 1);
    }

    private int thingOfKind(int first, int second) {
        for (int tries = 0; tries < 12; tries++) {
            int n = random.nextInt(Math.max(1, model.things.size()));
            Model.T t = model.there(n);
            if (t != null && (t.kind == first || t.kind == second)) return odd(n);
        }
        return anyThing();
    }

    private int aLetter() {
        for (int tries = 0; tries < 12 && !model.letters.isEmpty(); tries++) {
            int n = random.nextInt(model.letters.size());
            if (!model.letters.get(n).delivered) return odd(n);
        }
        return upTo(model.letters.size() + 1);
    }

    private int pickCall() {
        int all = 0;
        for (int often : mood.often) all += often;
        int at = random.nextInt(all);
        int call = 0;
        while (at >= mood.often[call]) at -= mood.often[call++];
        return call;
    }

    private void change() {
        int box = thingOfKind(1, 2);
        int place = upTo(4);
        switch (pickCall()) {
            case 0 -> {
                int host = upTo(hosts);
                int n = odd(1 + random.nextInt(8));
                due.due(title + "root(" + host + ", " + n + ")", real.root(host, n), model.root(host, n));
            }
            case 1 -> {
                int mark = random.nextInt();
                due.due(title + "leaf(" + box + ", " + place + ")", real.leaf(box, place, mark), model.leaf(box, place, mark));
            }
            case 2 -> {
                int n = odd(1 + random.nextInt(8));
                due.due(title + "box(" + box + ", " + place + ", " + n + ")", real.box(box, place, n), model.box(box, place, n));
            }
            case 3 -> put(box, place);
            case 4 -> due.due(title + "clear(" + box + ", " + place + ")", real.clear(box, place), model.clear(box, place));
            case 5 -> {
                int sort = upTo(4);
                int n = odd(random.nextInt(9));
                due.due(title + "row(" + box + ", " + place + ", " + sort + ", " + n + ")",
                    real.row(box, place, sort, n), model.row(box, place, sort, n));
            }
            case 6 -> {
                int i = upTo(9);
                long v = random.nextLong();
                due.due(title + "set(" + box + ", " + place + ", " + i + ", " + v + ")",
                    real.set(box, place, i, v), model.set(box, place, i, v));
            }
            case 7 -> {
                int q = upTo(4);
                int i = upTo(4);
                int n = upTo(5);
                due.due(title + "copy(" + box + ", " + place + ", " + q + ", " + i + ", " + n + ")",
                    real.copy(box, place, q, i, n), model.copy(box, place, q, i, n));
            }
            case 8 -> send(place);
            case 9 -> {
                int l = aLetter();
                due.due(title + "deliver(" + l + ")", real.deliver(l), model.deliver(l));
            }
            case 10 -> clean();
            default -> doubt();
        }
    }

    private void put(int box, int place) {
        int thing = random.nextInt(2) == 0 ? thingOfKind(3, 3) : thingOfKind(1, 1);
        Model.T b = model.there(box);
        for (int tries = 0; tries < 8 && b != null; tries++) {
            Model.T t = model.there(thing);
            if (t != null && t.host == b.host) break;
            thing = anyThing();
        }
        due.due(title + "put(" + box + ", " + place + ", " + thing + ")", real.put(box, place, thing), model.put(box, place, thing));
    }

    private void send(int place) {
        int thing = mood == Mood.MANY_WAIT ? thingOfKind(3, 3) : thingOfKind(1, 3);
        int root = thingOfKind(2, 2);
        due.due(title + "send(" + thing + ", " + root + ", " + place + ")",
            real.send(thing, root, place), model.send(thing, root, place));
    }

    private void clean() {
        int host = upTo(hosts);
        Set<Model.T> meant = new HashSet<>(model.meantOnes());
        int answer = model.clean(host);
        due.due(title + "clean(" + host + ")", real.clean(host), answer);
        for (int n : model.freedNow) {
            if (answer > 0) due.due(title + "nothing is freed that is still meant", meant.contains(model.things.get(n)), false);
        }
        freedInAll += Math.max(0, answer);
    }

    private void doubt() {
        boolean walksOn = random.nextInt(3) == 0;
        if (walksOn) deliverAll(0, 3);
        int thing = thingToDoubt();
        due.due(title + "doubt(" + thing + ")", real.doubt(thing), model.doubt(thing));
        if (walksOn) deliverAll(4, 5);
    }

    private int thingToDoubt() {
        boolean unmeant = random.nextInt(3) > 0;
        Set<Model.T> meant = model.meantOnes();
        int thing = thingOfKind(1, 1);
        for (int tries = 0; tries < 60; tries++) {
            Model.T t = model.there(thing);
            if (t != null && t.exit > 0 && !(unmeant && meant.contains(t))) break;
            thing = anyThing();
        }
        return thing;
    }

    /** Delivers letters of some kinds, mostly in a random order: so walks can end with no change between. */
    private void deliverAll(int leastKind, int mostKind) {
        for (int tries = 0; tries < 300; tries++) {
            int l = random.nextInt(Math.max(1, model.letters.size()));
            int kind = model.letter(l, 0);
            if (kind < leastKind || kind > mostKind || model.letter(l, 1) != 1) continue;
            due.due(title + "deliver(" + l + ")", real.deliver(l), model.deliver(l));
        }
    }

    /** Takes most of what roots hold away, so that rings over hosts are left alone. */
    private void letGo() {
        for (int n = 0; n < model.things.size(); n++) {
            if (model.thing(n, 0) != 2) continue;
            for (int place = 0; place < 8; place++) {
                if (random.nextInt(5) > 0) due.due(title + "clear(" + n + ", " + place + ")", real.clear(n, place), model.clear(n, place));
            }
        }
    }

    private void compareLittle() {
        for (int what = -1; what <= 18; what++) due.due(title + "status(" + what + ")", real.status(what), model.status(what));
        int t = anyThing();
        int what = upTo(9);
        due.due(title + "thing(" + t + ", " + what + ")", real.thing(t, what), model.thing(t, what));
        due.due(title + "meant(" + t + ")", real.meant(t), model.meant(t));
        due.due(title + "audit(" + t + ", " + what + ")", real.audit(t, what), model.audit(t, what));
        int l = upTo(model.letters.size() + 1);
        due.due(title + "letter(" + l + ", " + what + ")", real.letter(l, what), model.letter(l, what));
        int i = upTo(4);
        due.due(title + "freed(" + i + ")", real.freed(i), model.freed(i));
        due.due(title + "dead(" + i + ")", real.dead(i), model.dead(i));
        due.due(title + "why(" + t + ", " + i + ")", real.why(t, i), model.why(t, i));
        due.due(title + "gate(" + i + ", " + t + ")", real.gate(i, t), model.gate(i, t));
    }

    private void compareAll() {
        Map<Integer, List<Integer>> rows = model.rowsOfMeaning();
        for (int t = -1; t <= model.things.size(); t++) {
            for (int what = -1; what <= 8; what++) due.due(title + "thing(" + t + ", " + what + ")", real.thing(t, what), model.thing(t, what));
            for (int place = -1; place <= 8; place++) comparePlace(t, place);
            for (int host = -1; host <= 8; host++) due.due(title + "gate(" + host + ", " + t + ")", real.gate(host, t), model.gate(host, t));
            compareMeaning(t, rows.get(t));
        }
        for (int l = -1; l <= model.letters.size(); l++) {
            for (int what = -1; what <= 10; what++) due.due(title + "letter(" + l + ", " + what + ")", real.letter(l, what), model.letter(l, what));
        }
        for (int w = -1; w <= model.walks.size(); w++) {
            for (int what = -1; what <= 6; what++) due.due(title + "walk(" + w + ", " + what + ")", real.walk(w, what), model.walk(w, what));
        }
        for (int i = -1; i <= model.freedNow.size(); i++) due.due(title + "freed(" + i + ")", real.freed(i), model.freed(i));
    }

    private void comparePlace(int t, int place) {
        due.due(title + "holds(" + t + ", " + place + ")", real.holds(t, place), model.holds(t, place));
        for (int i = -1; i <= 9; i++) {
            due.due(title + "element(" + t + ", " + place + ", " + i + ")", real.element(t, place, i), model.element(t, place, i));
        }
    }

    private void compareMeaning(int t, List<Integer> row) {
        boolean isMeant = model.meant(t);
        due.due(title + "meant(" + t + ")", real.meant(t), isMeant);
        due.due(title + "a row of meaning for " + t, row != null && model.there(t) != null, isMeant);
        int size = isMeant && row != null ? row.size() : 0;
        for (int i = -1; i <= size; i++) {
            int want = i >= 0 && i < size ? row.get(i) : -1;
            due.due(title + "why(" + t + ", " + i + ")", real.why(t, i), want);
        }
        int exit = real.audit(t, 0);
        due.due(title + "audit(" + t + ", 1) is its EXIT", real.audit(t, 1), exit);
        due.due(title + "audit(" + t + ", 1)", exit, model.audit(t, 1));
    }
}
