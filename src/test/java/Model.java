import java.util.ArrayDeque;
import java.util.ArrayList;
import java.util.Arrays;
import java.util.HashMap;
import java.util.HashSet;
import java.util.List;
import java.util.Map;
import java.util.Set;
import java.util.TreeMap;
import java.util.TreeSet;

/**
 * The document told again, sentence by sentence and without care for speed:
 * a WALK keeps all its notes, and ROWS of MEANING are all written out. The
 * random runs of ModelTest hold FarHold against it.
 */
final class Model {
    static final class T {
        int number, kind, host, mark, weight, exit;
        T stands;
        boolean broken, freed;
        Object[] places = new Object[0];
    }

    static final class L {
        int kind, to, from, weight, root = -1, place = -1, told;
        T thing;
        W walk;
        boolean delivered;
    }

    record Name(T gate, T root, int place) { }

    record Note(int amount, boolean rooted, Set<T> held) { }

    static final class W {
        int number, end, steps = 1, back;
        T x;
        Map<Integer, Integer> counts = new HashMap<>();
        Map<T, Note> passed = new HashMap<>();
        Map<T, Note> met = new HashMap<>();
    }

    static final class RowOf {
        int sort;
        long[] e;
    }

    final List<T> things = new ArrayList<>();
    final List<L> letters = new ArrayList<>();
    final List<W> walks = new ArrayList<>();
    final List<Name> waiting = new ArrayList<>();
    final int[] count = new int[8];
    final int[] refused = new int[8];
    List<Integer> freedNow = new ArrayList<>();
    int again = 0;

    private int no(int code) {
        refused[-code]++;
        return code;
    }

    T there(int n) {
        return n >= 0 && n < things.size() && !things.get(n).freed ? things.get(n) : null;
    }

    private T make(int kind, int host, int places) {
        T t = new T();
        t.number = things.size();
        t.kind = kind;
        t.host = host;
        t.places = new Object[places];
        things.add(t);
        return t;
    }

    private static boolean placed(T t) {
        return t.kind == 1 || t.kind == 2;
    }

    private static boolean in(T t, int place) {
        return place >= 0 && place < t.places.length;
    }

    static Set<T> leads(T t) {
        Set<T> seen = new HashSet<>();
        lead(t, seen);
        return seen;
    }

    private static void lead(T t, Set<T> seen) {
        if (!seen.add(t)) return;
        for (Object o : t.places) if (o instanceof T held) lead(held, seen);
    }

    private boolean near(T t) {
        for (T r : things) if (r.kind == 2 && r.host == t.host && leads(r).contains(t)) return true;
        return false;
    }

    private boolean waits(T gate) {
        return waiting.stream().anyMatch(n -> n.gate() == gate);
    }

    int root(int host, int n) {
        if (host < 0 || host > 7) return no(-1);
        if (n < 1) return no(-4);
        if (n > 8 || things.size() == 300) return no(-6);
        count[host]++;
        return make(2, host, n).number;
    }

    private int badPlace(int box, int place) {
        T b = there(box);
        if (b == null) return -1;
        if (!placed(b)) return -2;
        return in(b, place) ? 0 : -3;
    }

    int leaf(int box, int place, int mark) {
        int bad = badPlace(box, place);
        if (bad != 0) return no(bad);
        T b = there(box);
        if (!near(b)) return no(-5);
        if (things.size() == 300) return no(-6);
        T t = make(0, b.host, 0);
        t.mark = mark;
        b.places[place] = t;
        count[b.host]++;
        return t.number;
    }

    int box(int box, int place, int n) {
        int bad = badPlace(box, place);
        if (bad != 0) return no(bad);
        if (n < 1) return no(-4);
        T b = there(box);
        if (!near(b)) return no(-5);
        if (n > 8 || things.size() == 300) return no(-6);
        T t = make(1, b.host, n);
        b.places[place] = t;
        count[b.host]++;
        return t.number;
    }

    int put(int box, int place, int thing) {
        T t = there(thing);
        if (t == null) return no(-1);
        int bad = badPlace(box, place);
        if (bad != 0) return no(bad);
        T b = there(box);
        if (!near(b) || !near(t) || b.host != t.host) return no(-5);
        b.places[place] = t;
        count[b.host]++;
        return 1;
    }

    int clear(int box, int place) {
        int bad = badPlace(box, place);
        if (bad != 0) return no(bad);
        T b = there(box);
        if (!near(b)) return no(-5);
        if (b.places[place] == null) return no(-7);
        b.places[place] = null;
        count[b.host]++;
        return 1;
    }

    int row(int box, int place, int sort, int n) {
        T b = there(box);
        if (b == null) return no(-1);
        if (!placed(b) || sort < 0 || sort > 3) return no(-2);
        if (!in(b, place)) return no(-3);
        if (n < 0) return no(-4);
        if (!near(b)) return no(-5);
        if (n > 32) return no(-6);
        RowOf r = new RowOf();
        r.sort = sort;
        r.e = new long[n];
        b.places[place] = r;
        count[b.host]++;
        return 1;
    }

    int set(int box, int place, int i, long v) {
        T b = there(box);
        if (b == null) return no(-1);
        if (!placed(b)) return no(-2);
        Object o = in(b, place) ? b.places[place] : null;
        if (o instanceof T) return no(-2);
        if (!in(b, place)) return no(-3);
        if (o instanceof RowOf r && (i < 0 || i >= r.e.length)) return no(-3);
        if (!near(b)) return no(-5);
        if (o == null) return no(-7);
        RowOf r = (RowOf) o;
        int unused = r.sort == 3 ? 0 : r.sort == 2 ? 32 : r.sort == 1 ? 48 : 56;
        r.e[i] = v << unused >> unused;
        count[b.host]++;
        return 1;
    }

    int copy(int box, int p, int q, int i, int n) {
        T b = there(box);
        if (b == null) return no(-1);
        if (!placed(b)) return no(-2);
        Object from = in(b, p) ? b.places[p] : null;
        Object to = in(b, q) ? b.places[q] : null;
        if (from instanceof T || to instanceof T) return no(-2);
        RowOf f = (RowOf) from;
        RowOf t = (RowOf) to;
        if (f != null && t != null && f.sort != t.sort) return no(-2);
        if (!in(b, p) || !in(b, q)) return no(-3);
        if (f != null && t != null && n >= 0) {
            if (i < 0 || (long) i + (long) n > f.e.length || n > t.e.length) return no(-3);
        }
        if (n < 0) return no(-4);
        if (!near(b)) return no(-5);
        if (f == null || t == null) return no(-7);
        long[] ahead = Arrays.copyOfRange(f.e, i, i + n);
        for (int k = 0; k < n; k++) t.e[k] = ahead[k];
        count[b.host]++;
        return 1;
    }

    long element(int box, int place, int i) {
        T b = there(box);
        if (b == null || !in(b, place)) return 0;
        return b.places[place] instanceof RowOf r && i >= 0 && i < r.e.length ? r.e[i] : 0;
    }

    int holds(int box, int place) {
        T b = there(box);
        if (b == null || !in(b, place)) return -20;
        Object o = b.places[place];
        if (o instanceof T t) return t.number;
        return o instanceof RowOf r ? -10 - r.sort : -1;
    }

    int thing(int n, int what) {
        if (n < 0 || n >= things.size()) return -1;
        T t = things.get(n);
        if (what == 6) return t.kind == 3 ? 0 : t.exit;
        if (what == 7) return t.kind != 3 && t.broken ? 1 : 0;
        if (t.freed || what < 0 || what > 7) return -1;
        int[] answers = {t.kind, t.host, t.places.length, t.mark, t.kind == 3 ? t.stands.number : -1, t.weight};
        return answers[what];
    }

    int gate(int host, int n) {
        for (T t : things) if (!t.freed && t.kind == 3 && t.host == host && t.stands.number == n) return t.number;
        return -1;
    }

    private L write(int kind, int from, int to, T thing, int weight) {
        L l = new L();
        l.kind = kind;
        l.from = from;
        l.to = to;
        l.thing = thing;
        l.weight = weight;
        letters.add(l);
        return l;
    }

    private void sending(T x, T root, int place) {
        L l;
        if (x.kind != 3) {
            x.exit += 64;
            l = write(0, x.host, root.host, x, 64);
        } else if (x.weight >= 2) {
            int w = x.weight;
            x.weight = w - w / 2;
            l = write(0, x.host, root.host, x.stands, w / 2);
        } else {
            waiting.add(new Name(x, root, place));
            write(1, x.host, x.stands.host, x.stands, 0);
            return;
        }
        l.root = root.number;
        l.place = place;
    }

    int send(int t, int root, int place) {
        T x = there(t);
        T r = there(root);
        if (x == null || r == null) return no(-1);
        if (r.kind != 2) return no(-2);
        if (!in(r, place)) return no(-3);
        if (!near(x) || x.host == r.host) return no(-5);
        if (letters.size() == 600) return no(-6);
        if (x.kind == 3 && x.weight == 1 && waiting.size() == 16) return no(-6);
        sending(x, r, place);
        count[x.host]++;
        return letters.size() - 1;
    }

    int deliver(int n) {
        if (n < 0 || n >= letters.size()) return no(-1);
        L l = letters.get(n);
        if (l.delivered) {
            again++;
            return 0;
        }
        boolean fits = switch (l.kind) {
            case 0 -> name(l);
            case 1 -> more(l);
            case 2 -> give(l);
            case 3 -> home(l);
            case 4 -> step(l);
            default -> back(l);
        };
        if (!fits) return no(-6);
        l.delivered = true;
        if (l.kind < 4) count[l.to]++;
        return 1;
    }

    private void less(T t, int weight) {
        t.exit -= weight;
        if (t.exit == 0) t.broken = false;
    }

    private boolean name(L l) {
        T root = things.get(l.root);
        if (l.thing.host == l.to) {
            less(l.thing, l.weight);
            root.places[l.place] = l.thing;
            return true;
        }
        int g = gate(l.to, l.thing.number);
        if (g == -1) {
            if (things.size() == 300) return false;
            T t = make(3, l.to, 0);
            t.stands = l.thing;
            g = t.number;
        }
        things.get(g).weight += l.weight;
        root.places[l.place] = things.get(g);
        return true;
    }

    private boolean more(L l) {
        if (letters.size() == 600) return false;
        l.thing.exit += 64;
        write(2, l.to, l.from, l.thing, 64);
        return true;
    }

    private boolean give(L l) {
        T g = things.get(gate(l.to, l.thing.number));
        Name first = waiting.stream().filter(n -> n.gate() == g).findFirst().orElseThrow();
        if (letters.size() == 600) return false;
        g.weight += 64;
        waiting.remove(first);
        sending(g, first.root(), first.place());
        return true;
    }

    private boolean home(L l) {
        less(l.thing, l.weight);
        return true;
    }

    private Set<T> held(T y) {
        Set<T> by = new HashSet<>();
        for (T z : things) {
            if (z.freed || z == y || z.host != y.host || z.exit <= 0 || z.broken) continue;
            if (leads(z).contains(y)) by.add(z);
        }
        return by;
    }

    private Note note(T t, int amount) {
        return new Note(amount, near(t) || waits(t), held(t));
    }

    private boolean step(L l) {
        W w = l.walk;
        if (w.end != 0) return true;
        T y = l.thing;
        boolean passes = !y.freed && !w.passed.containsKey(y);
        Map<Integer, T> gates = new TreeMap<>();
        if (passes) {
            for (T g : leads(y)) if (g.kind == 3 && !w.met.containsKey(g)) gates.put(g.number, g);
        }
        if (letters.size() + gates.size() + 1 > 600) return false;
        if (passes) {
            w.counts.putIfAbsent(y.host, count[y.host]);
            w.passed.put(y, note(y, y.exit));
        }
        for (T g : gates.values()) {
            w.met.put(g, note(g, g.weight));
            write(4, y.host, g.stands.host, g.stands, 0).walk = w;
        }
        L back = write(5, y.host, w.x.host, y, 0);
        back.walk = w;
        back.told = gates.size();
        return true;
    }

    private boolean back(L l) {
        W w = l.walk;
        if (w.end != 0) return true;
        w.back++;
        w.steps += l.told;
        if (w.back != w.steps) return true;
        boolean changed = false;
        for (Map.Entry<Integer, Integer> e : w.counts.entrySet()) {
            if (count[e.getKey()] != e.getValue()) changed = true;
        }
        if (changed) w.end = 2;
        else if (alive(w).contains(w.x)) w.end = 1;
        else {
            w.end = 3;
            w.x.broken = true;
            count[w.x.host]++;
        }
        return true;
    }

    private Set<T> alive(W w) {
        Set<T> alive = new HashSet<>();
        boolean grows = true;
        while (grows) {
            grows = false;
            for (T y : w.passed.keySet()) {
                if (!alive.contains(y) && isAlive(w, y, alive)) grows = alive.add(y);
            }
        }
        return alive;
    }

    private boolean isAlive(W w, T y, Set<T> alive) {
        List<Note> notes = new ArrayList<>();
        notes.add(w.passed.get(y));
        int sum = 0;
        for (Map.Entry<T, Note> e : w.met.entrySet()) {
            if (e.getKey().stands != y) continue;
            sum += e.getValue().amount();
            notes.add(e.getValue());
        }
        if (w.passed.get(y).amount() > sum) return true;
        for (Note n : notes) {
            if (n.rooted()) return true;
            for (T z : n.held()) if (!w.passed.containsKey(z) || alive.contains(z)) return true;
        }
        return false;
    }

    int letter(int n, int what) {
        if (n < 0 || n >= letters.size() || what < 0 || what > 9) return -1;
        L l = letters.get(n);
        int[] answers = {l.kind, l.delivered ? 0 : 1, l.to, l.from, l.thing.number, l.weight, l.root, l.place,
            l.walk == null ? -1 : l.walk.number, l.told};
        return answers[what];
    }

    int clean(int host) {
        if (host < 0 || host > 7) return no(-1);
        Set<T> kept = new HashSet<>();
        for (T t : things) {
            if (t.freed || t.host != host) continue;
            if (t.kind == 2 || t.exit > 0 && !t.broken) kept.addAll(leads(t));
            if (waits(t)) kept.add(t);
        }
        List<T> others = new ArrayList<>();
        for (T t : things) if (!t.freed && t.host == host && !kept.contains(t)) others.add(t);
        long gates = others.stream().filter(t -> t.kind == 3).count();
        if (letters.size() + gates > 600) return no(-6);
        freedNow = new ArrayList<>();
        for (T t : others) {
            t.freed = true;
            freedNow.add(t.number);
            if (t.kind == 3) write(3, host, t.stands.host, t.stands, t.weight);
        }
        if (!others.isEmpty()) count[host]++;
        return others.size();
    }

    int freed(int i) {
        return i >= 0 && i < freedNow.size() ? freedNow.get(i) : -1;
    }

    int doubt(int n) {
        T x = there(n);
        if (x == null) return no(-1);
        if (x.kind == 3) return no(-2);
        if (x.exit == 0 || x.broken) return no(-5);
        if (walks.size() == 20 || letters.size() == 600) return no(-6);
        W w = new W();
        w.number = walks.size();
        w.x = x;
        walks.add(w);
        write(4, x.host, x.host, x, 0).walk = w;
        return w.number;
    }

    int walk(int n, int what) {
        if (n < 0 || n >= walks.size() || what < 0 || what > 5) return -1;
        W w = walks.get(n);
        int[] answers = {w.end, w.x.number, w.steps, w.back, w.passed.size(), w.met.size()};
        return answers[what];
    }

    /** All that may follow a THING in a ROW of MEANING. */
    private Set<Integer> next(T t) {
        Set<Integer> next = new TreeSet<>();
        for (Object o : t.places) if (o instanceof T held) next.add(held.number);
        if (t.kind == 3) next.add(t.stands.number);
        for (L l : letters) if (l.kind == 0 && !l.delivered && l.root == t.number) next.add(l.thing.number);
        for (Name n : waiting) if (n.root() == t) next.add(n.gate().number);
        return next;
    }

    Set<T> meantOnes() {
        Set<T> meant = new HashSet<>();
        ArrayDeque<T> open = new ArrayDeque<>();
        for (T t : things) if (t.kind == 2) open.add(t);
        for (L l : letters) if (l.kind == 0 && !l.delivered) open.add(l.thing);
        for (Name n : waiting) open.add(n.gate());
        while (!open.isEmpty()) {
            T t = open.remove();
            if (!meant.add(t)) continue;
            for (Object o : t.places) if (o instanceof T held) open.add(held);
            if (t.kind == 3) open.add(t.stands);
        }
        return meant;
    }

    boolean meant(int n) {
        T t = there(n);
        return t != null && meantOnes().contains(t);
    }

    /** Every THING's least ROW of MEANING, by making all ROWS longer until no shorter one can come. */
    Map<Integer, List<Integer>> rowsOfMeaning() {
        Map<Integer, List<Integer>> best = new TreeMap<>();
        List<List<Integer>> rows = new ArrayList<>();
        for (T t : things) if (t.kind == 2) rows.add(List.of(t.number));
        while (!rows.isEmpty()) {
            Map<Integer, List<Integer>> found = new TreeMap<>();
            for (List<Integer> row : rows) {
                int last = row.get(row.size() - 1);
                if (best.containsKey(last)) continue;
                found.merge(last, row, Model::lesser);
            }
            best.putAll(found);
            rows = new ArrayList<>();
            for (List<Integer> row : found.values()) {
                for (int n : next(things.get(row.get(row.size() - 1)))) {
                    List<Integer> longer = new ArrayList<>(row);
                    longer.add(n);
                    rows.add(longer);
                }
            }
        }
        return best;
    }

    private static List<Integer> lesser(List<Integer> a, List<Integer> b) {
        for (int i = 0; i < a.size(); i++) {
            int order = Integer.compare(a.get(i), b.get(i));
            if (order != 0) return order < 0 ? a : b;
        }
        return a;
    }

    int why(int n, int i) {
        if (there(n) == null) return -1;
        List<Integer> row = rowsOfMeaning().get(n);
        return row == null || i < 0 || i >= row.size() ? -1 : row.get(i);
    }

    int dead(int i) {
        List<Integer> dead = new ArrayList<>();
        Set<T> meant = meantOnes();
        for (T t : things) if (!t.freed && !meant.contains(t)) dead.add(t.number);
        return i >= 0 && i < dead.size() ? dead.get(i) : -1;
    }

    int audit(int n, int what) {
        if (n < 0 || n >= things.size() || things.get(n).kind == 3) return -1;
        T asked = things.get(n);
        if (what == 0) return asked.exit;
        if (what != 1) return -1;
        int sum = 0;
        for (T t : things) if (!t.freed && t.kind == 3 && t.stands == asked) sum += t.weight;
        for (L l : letters) if (!l.delivered && l.thing == asked) sum += l.weight;
        return sum;
    }

    int status(int what) {
        switch (what) {
            case 0: return things.size();
            case 1: return (int) things.stream().filter(t -> !t.freed).count();
            case 2: return letters.size();
            case 3: return (int) letters.stream().filter(l -> !l.delivered).count();
            case 4: return walks.size();
            case 5: return waiting.size();
            case 6: return again;
            case 7: return Arrays.stream(count).sum();
            default: return what >= 11 && what <= 17 ? refused[what - 10] : -1;
        }
    }
}
