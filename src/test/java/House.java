/**
 * A FarHold that counts its calls: nothing is promised of an object after its
 * 512th call, so a test that needs more of one object is wrong itself.
 */
final class House {
    static final int MOST_CALLS = 512;

    private final FarHold real = new FarHold();
    private int calls = 0;

    /** A new one, after a scene. */
    static House after(Scene scene) {
        House x = new House();
        scene.build(x);
        return x;
    }

    int callsLeft() {
        return MOST_CALLS - calls;
    }

    private FarHold called() {
        if (callsLeft() <= 0) throw new IllegalStateException("a test uses an object for more than 512 calls");
        calls++;
        return real;
    }

    int root(int host, int n) {
        return called().root(host, n);
    }

    int leaf(int box, int place, int mark) {
        return called().leaf(box, place, mark);
    }

    int box(int box, int place, int n) {
        return called().box(box, place, n);
    }

    int put(int box, int place, int thing) {
        return called().put(box, place, thing);
    }

    int clear(int box, int place) {
        return called().clear(box, place);
    }

    int row(int box, int place, int sort, int n) {
        return called().row(box, place, sort, n);
    }

    int set(int box, int place, int i, long v) {
        return called().set(box, place, i, v);
    }

    int copy(int box, int p, int q, int i, int n) {
        return called().copy(box, p, q, i, n);
    }

    long element(int box, int place, int i) {
        return called().element(box, place, i);
    }

    int holds(int box, int place) {
        return called().holds(box, place);
    }

    int thing(int t, int what) {
        return called().thing(t, what);
    }

    int gate(int host, int t) {
        return called().gate(host, t);
    }

    int send(int t, int root, int place) {
        return called().send(t, root, place);
    }

    int deliver(int letter) {
        return called().deliver(letter);
    }

    int letter(int l, int what) {
        return called().letter(l, what);
    }

    int clean(int host) {
        return called().clean(host);
    }

    int freed(int i) {
        return called().freed(i);
    }

    int doubt(int t) {
        return called().doubt(t);
    }

    int walk(int w, int what) {
        return called().walk(w, what);
    }

    boolean meant(int t) {
        return called().meant(t);
    }

    int why(int t, int i) {
        return called().why(t, i);
    }

    int dead(int i) {
        return called().dead(i);
    }

    int audit(int t, int what) {
        return called().audit(t, what);
    }

    int status(int what) {
        return called().status(what);
    }
}
