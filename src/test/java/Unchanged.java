import java.util.HashMap;
import java.util.List;
import java.util.Map;
import java.util.TreeMap;

/** Holds calls to changing nothing: all that an object tells after a call against what it told ahead of it. */
final class Unchanged {
    private final Due due;
    private final Map<Scene, Map<String, Long>> told = new HashMap<>();

    Unchanged(Due due) {
        this.due = due;
    }

    /** The call is answered with the refusal's number, and changes nothing but how many of it there were. */
    void refused(Scene scene, int number, String name, Call call) {
        Map<String, Long> want = new TreeMap<>(told.computeIfAbsent(scene, Told::after));
        want.merge("status(" + (10 - number) + ")", 1L, Long::sum);
        compare(scene, number, name, call, want);
    }

    /** The call changes nothing at all. */
    void unchanged(Scene scene, long answer, String name, Call call) {
        compare(scene, answer, name, call, told.computeIfAbsent(scene, Told::after));
    }

    /** The call changes one thing that the object tells. */
    void onlyChanges(Scene scene, long answer, String name, Call call, String question, long by) {
        Map<String, Long> want = new TreeMap<>(told.computeIfAbsent(scene, Told::after));
        want.merge(question, by, Long::sum);
        compare(scene, answer, name, call, want);
    }

    private void compare(Scene scene, long want, String name, Call call, Map<String, Long> wantTold) {
        long[] answer = new long[1];
        Map<String, Long> hasTold = Told.after(x -> {
            scene.build(x);
            answer[0] = call.on(x);
        });
        due.due(name, answer[0], want);
        List<String> differ = Told.differences(wantTold, hasTold);
        due.due("what " + name + " changed " + differ, differ.size(), 0);
    }
}
