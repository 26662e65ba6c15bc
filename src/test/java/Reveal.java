import java.util.ArrayList;
import java.util.List;
import java.util.function.Supplier;
import java.util.function.ToIntFunction;

/**
 * All that can be found out about a router. Much of it can be seen only by acts (the codes of a
 * switch, when a call was connected, the states of the history), so each look is at a new router
 * that was made in the same way; none of them comes to 512 calls.
 */
final class Reveal {
    static final int STATES = 5;

    private Reveal() {
    }

    /** The state behind so many undo(): what the document's HISTORY lists. */
    static List<Long> state(Supplier<CallRouter> scene, int back) {
        CallRouter x = scene.get();
        for (int i = 0; i < back; i++) {
            x.undo();
        }
        List<Long> answers = new ArrayList<>();
        answers.add(x.fingerprint());
        answers.add((long) x.band());
        for (int place = 0; place < 10; place++) {
            answers.add((long) x.called(place));
            for (int i = 0; i <= 6; i++) {
                answers.add((long) x.way(place, i));
            }
        }
        for (int s = 0; s < 8; s++) {
            answers.add((long) x.setCodes(s, 0));
            answers.add((long) x.setLookup(s, false));
        }
        for (int number : Scenes.PORTED) {
            answers.add((long) x.unport(number));
        }
        for (int place = 0; place < 10; place++) {
            answers.add((long) x.end(place));
        }
        answers.add(x.fingerprint());
        return answers;
    }

    static List<Long> undoAnswers(Supplier<CallRouter> scene) {
        CallRouter x = scene.get();
        List<Long> answers = new ArrayList<>();
        for (int i = 0; i <= STATES; i++) {
            answers.add((long) x.undo());
        }
        return answers;
    }

    static List<Long> trace(Supplier<CallRouter> scene) {
        CallRouter x = scene.get();
        List<Long> answers = new ArrayList<>();
        answers.add((long) x.attempts());
        for (int i = 0; i <= 30; i++) {
            answers.add((long) x.attempt(i, 0));
            answers.add((long) x.attempt(i, 1));
        }
        return answers;
    }

    static List<Long> buffer(Supplier<CallRouter> scene) {
        CallRouter x = scene.get();
        List<Long> answers = new ArrayList<>();
        answers.add((long) x.run());
        answers.add(x.fingerprint());
        answers.add((long) x.clear());
        return answers;
    }

    static List<List<Long>> all(Supplier<CallRouter> scene) {
        List<List<Long>> answers = new ArrayList<>();
        for (int back = 0; back <= STATES; back++) {
            answers.add(state(scene, back));
        }
        answers.add(undoAnswers(scene));
        answers.add(trace(scene));
        answers.add(buffer(scene));
        return answers;
    }

    private static Supplier<CallRouter> after(Supplier<CallRouter> scene, ToIntFunction<CallRouter> call) {
        return () -> {
            CallRouter x = scene.get();
            call.applyAsInt(x);
            return x;
        };
    }

    /** The call answers this, and all is as it was. */
    static void unchanged(String name, Supplier<CallRouter> scene, ToIntFunction<CallRouter> call, int due) {
        Check.due(name, call.applyAsInt(scene.get()), due);
        Check.dueTrue(name + " changes nothing", all(after(scene, call)).equals(all(scene)));
    }

    /** The call answers this, and adds the state before it to a history of five states. */
    static void act(String name, Supplier<CallRouter> scene, ToIntFunction<CallRouter> call, int due) {
        Check.due(name, call.applyAsInt(scene.get()), due);
        Supplier<CallRouter> acted = after(scene, call);
        Check.dueTrue(name + " leaves five states", undoAnswers(acted).equals(List.of(4L, 3L, 2L, 1L, 0L, -9L)));
        for (int back = 0; back < STATES; back++) {
            Check.dueTrue(name + " and " + (back + 1) + " undo()",
                    state(acted, back + 1).equals(state(scene, back)));
        }
    }

    /** A call with one argument that is looked at. */
    interface Asked {
        int answer(CallRouter x, int value);
    }

    /** An argument from least to most, all else being allowed: the two ends are as due, what is outside is BAD. */
    static void range(String name, Supplier<CallRouter> scene, Asked call, int[] leastAndDue, int[] mostAndDue) {
        for (int[] end : new int[][] {leastAndDue, mostAndDue}) {
            Check.due(name + " = " + end[0], call.answer(scene.get(), end[0]), end[1]);
        }
        for (int value : outside(leastAndDue[0], mostAndDue[0])) {
            unchanged(name + " = " + value, scene, x -> call.answer(x, value), CallRouter.BAD);
        }
    }

    static int[] outside(int least, int most) {
        return new int[] {least - 1, most + 1, Integer.MIN_VALUE, Integer.MAX_VALUE};
    }
}
