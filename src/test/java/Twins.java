/** Two objects with the same calls, but for one call: whether any later call tells them apart. */
final class Twins {
    private static final Call[] LATER = {x -> 0, x -> undo(x, 1), x -> undo(x, 2), x -> undo(x, 3), x -> undo(x, 4),
        x -> undo(x, 5), x -> undo(x, 6), x -> undo(x, 7), x -> x.restore(0), x -> x.restore(1), x -> x.put('r'),
        x -> x.put('r') + 100 * x.run(), x -> x.fill(6, 0, 1) + 100 * undo(x, 2), x -> x.wipe()};

    /** Makes an object, always the same. */
    interface Maker {
        ThinnedPots make();
    }

    private Twins() {
    }

    private static int undo(ThinnedPots x, int times) {
        int answers = 0;
        for (int time = 0; time < times; time++) {
            answers = 10 * answers + x.undo();
        }
        return answers;
    }

    private static String seen(ThinnedPots x, Call later) {
        int answer = later.on(x);
        return answer + " " + x.count(10) + " " + x.count(11) + " " + x.fault() + " " + Paints.answers(x);
    }

    /** Checks that a call leaves nothing behind, neither in the paint nor in the pad, the history, or a slot. */
    static void nothingChanges(Sentences told, String name, Maker maker, Call call) {
        for (int i = 0; i < LATER.length; i++) {
            ThinnedPots called = maker.make();
            call.on(called);
            told.same("nothing changes by " + name + ", seen by " + i, seen(called, LATER[i]), seen(maker.make(), LATER[i]));
        }
    }
}
