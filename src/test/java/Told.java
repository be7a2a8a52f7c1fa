import java.util.ArrayList;
import java.util.List;
import java.util.Map;
import java.util.TreeMap;

/**
 * All that an object tells of itself after a scene. That takes more questions
 * than an object has calls, so the scene is built again whenever they run out.
 */
final class Told {
    private static final int HOSTS = 8;
    private static final int PLACES = 8;
    private static final int ELEMENTS = 32;

    private final Scene scene;
    private final Map<String, Long> answers = new TreeMap<>();
    private House x = null;

    private Told(Scene scene) {
        this.scene = scene;
    }

    static Map<String, Long> after(Scene scene) {
        Told told = new Told(scene);
        told.askAll();
        return told.answers;
    }

    /** What differs between two tellings, a line each. */
    static List<String> differences(Map<String, Long> had, Map<String, Long> has) {
        Map<String, Long> all = new TreeMap<>(had);
        all.putAll(has);
        List<String> lines = new ArrayList<>();
        for (String question : all.keySet()) {
            Long then = had.get(question);
            Long now = has.get(question);
            if (then == null || !then.equals(now)) lines.add(question + " was " + then + ", is " + now);
        }
        return lines;
    }

    private House house() {
        if (x == null || x.callsLeft() == 0) x = House.after(scene);
        return x;
    }

    private long ask(String question, Call call) {
        long answer = call.on(house());
        answers.put(question, answer);
        return answer;
    }

    private void askAll() {
        for (int what = 0; what <= 17; what++) {
            int asked = what;
            if (what <= 7 || what >= 11) ask("status(" + what + ")", h -> h.status(asked));
        }
        for (int t = 0; t < answers.get("status(0)"); t++) askThing(t);
        for (int l = 0; l < answers.get("status(2)"); l++) askLetter(l);
        for (int w = 0; w < answers.get("status(4)"); w++) askWalk(w);
        askUntilNone("freed(", House::freed);
        askUntilNone("dead(", House::dead);
    }

    /** A question of an i-th one. */
    private interface Ith {
        long on(House x, int i);
    }

    private void askUntilNone(String question, Ith ith) {
        long answer = 0;
        for (int i = 0; answer != FarHold.NONE; i++) {
            int asked = i;
            answer = ask(question + i + ")", h -> ith.on(h, asked));
        }
    }

    private void askThing(int t) {
        for (int what = 0; what <= 7; what++) {
            int asked = what;
            ask("thing(" + t + ", " + what + ")", h -> h.thing(t, asked));
        }
        for (int host = 0; host < HOSTS; host++) {
            int asked = host;
            ask("gate(" + host + ", " + t + ")", h -> h.gate(asked, t));
        }
        ask("meant(" + t + ")", h -> h.meant(t) ? 1 : 0);
        ask("audit(" + t + ", 0)", h -> h.audit(t, 0));
        ask("audit(" + t + ", 1)", h -> h.audit(t, 1));
        askUntilNone("why(" + t + ", ", (h, i) -> h.why(t, i));
        long places = answers.get("thing(" + t + ", 2)");
        for (int place = 0; place < places && place < PLACES; place++) askPlace(t, place);
    }

    private void askPlace(int t, int place) {
        long held = ask("holds(" + t + ", " + place + ")", h -> h.holds(t, place));
        if (held > -10) return;
        for (int i = 0; i < ELEMENTS; i++) {
            int asked = i;
            ask("element(" + t + ", " + place + ", " + i + ")", h -> h.element(t, place, asked));
        }
    }

    private void askLetter(int l) {
        for (int what = 0; what <= 9; what++) {
            int asked = what;
            ask("letter(" + l + ", " + what + ")", h -> h.letter(l, asked));
        }
    }

    private void askWalk(int w) {
        for (int what = 0; what <= 5; what++) {
            int asked = what;
            ask("walk(" + w + ", " + what + ")", h -> h.walk(w, asked));
        }
    }
}
