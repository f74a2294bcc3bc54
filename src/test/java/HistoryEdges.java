import java.util.ArrayList;
import java.util.List;

/** The sentences on changes, and those of the promises 24, 25 and 26: undo(), save(), restore(). */
final class HistoryEdges {
    private static final int BAD_VALUE = -2, NOT_POSSIBLE = -5;
    private static final int[] CHANGES = {2, 3, 4, 5, 6, 7, 8, 9, 10, 11, 26};
    private final Sentences told;

    HistoryEdges(Sentences told) {
        this.told = told;
    }

    void all() {
        changes();
        looks();
        texts();
        undoEverything();
        undoLeaves();
        undoOfMany();
        undoAndMore();
        undoRecords();
        undoAnswers();
        saveEverything();
        saveOverwrites();
        saveAnswers();
        restores();
        restoreAnswers();
    }

    private void due(String call, long got, long want) {
        told.due(call, got, want);
    }

    /** Paint in pots and on the brush, a painted panel, both slots, a pad, and 4 changes to be undone. */
    private static ThinnedPots begun() {
        ThinnedPots x = Paints.brushed(4, 3, 2, 0);
        Paints.fillPot(x, 0, 9, 0, 9, 0);
        x.set(1, 33);
        x.save(0);
        x.want(1, 20, 30, 40);
        x.paint(1);
        x.thin(1);
        x.pour(0, 2, 3);
        x.save(1);
        x.fill(0, 1, 3);
        x.set(1, 34);
        x.set(1, 35);
        x.undo();
        x.undo();
        Checks.type(x, "0!;d0:1;p2;r");
        return x;
    }

    /** The change of a promise, on an object that has begun. */
    private static int change(ThinnedPots x, int promise) {
        switch (promise) {
            case 2: return x.set(0, 1);
            case 3: return x.fill(3, 2, 3);
            case 4: return x.thin(0);
            case 5: return x.pour(0, 5, 7);
            case 6: return x.empty(0);
            case 7: return x.dip(0, 2);
            case 8: return x.paint(1);
            case 9: return x.rinse();
            case 10: return x.want(1, 90, 80, 70);
            case 11: return x.run();
            default: return x.restore(0);
        }
    }

    private void changes() {
        for (int promise : CHANGES) {
            told.tell(String.valueOf(promise), "This is a change.");
            ThinnedPots x = begun();
            String before = Paints.answers(x);
            due("to be undone ahead of it", x.count(11), 4);
            due("no error", change(x, promise) >= 0 ? 1 : 0, 1);
            due("recorded", x.count(11), 5);
            told.holds("it alters something", !before.equals(Paints.answers(x)));
            due("undone", x.undo(), 4);
            told.same("all as before", Paints.answers(x), before);
        }
        told.tell("Texts", "Ahead of the calls `set`, `fill`, `thin`, `pour`, `empty`, `dip`, `paint`, `rinse`, `want`, "
            + "`run` the interface says: ---- changes.");
        ThinnedPots x = begun();
        for (int promise = 2; promise <= 10; promise++) {
            due("change " + promise, change(x, promise) == NOT_POSSIBLE ? 1 : 0, promise == 7 ? 1 : 0);
        }
        due("run", change(x, 11), 1);
        due("a full history", x.count(11), 6);
    }

    private void looks() {
        told.tell("Texts", "Ahead of the calls `pot`, `brush`, `panel`, `count` the interface says: ---- what there is; "
            + "nothing changes.");
        for (int what = 0; what < 12; what++) {
            int w = what;
            unchanged("pot", x -> x.pot(0, w));
            unchanged("brush", x -> x.brush(w));
            unchanged("panel", x -> x.panel(1, w));
            unchanged("count", x -> x.count(w));
        }
        told.tell("Texts", "Ahead of the calls `nearest`, `bestThinning`, `bestMixture`, `rinses`, `bestOrder` the "
            + "interface says: ---- what if; nothing changes.");
        for (int what = 0; what < 6; what++) {
            int w = what;
            unchanged("nearest", x -> x.nearest(w, 1));
            unchanged("bestThinning", x -> x.bestThinning(1, w, 1));
            unchanged("bestMixture", x -> x.bestMixture(1, w));
            unchanged("rinses", x -> x.rinses(w));
            unchanged("bestOrder", x -> x.bestOrder(w));
        }
    }

    private void unchanged(String name, Call call) {
        Twins.nothingChanges(told, name, HistoryEdges::begun, call);
    }

    private void texts() {
        told.tell("Texts", "Ahead of the calls `put`, `wipe`, `fault` the interface says: ---- texts.");
        unchanged("fault", x -> x.fault());
        unchanged("put and wipe of the same", x -> x.wipe() + Checks.type(x, "0!;d0:1;p2;r"));
        ThinnedPots x = begun();
        String before = Paints.answers(x);
        x.wipe();
        x.put('x');
        due("no change", x.count(11), 4);
        told.same("only the pad", Paints.answers(x), before);
        due("the pad", x.fault(), 0);
        told.tell("Texts", "Ahead of the calls `undo`, `save`, `restore` the interface says: ---- undo, saving.");
        due("undo", x.undo(), 3);
        due("save", x.save(0), x.count(3));
        due("restore", x.restore(0), x.count(3));
    }

    private void undoEverything() {
        told.tell("24", "Undoes the latest change: everything except the pad, the slots and the history is as it was "
            + "before it.");
        for (int promise : CHANGES) {
            // The history is full, so that it turns round.
            ThinnedPots x = begun();
            x.set(1, 36);
            x.set(1, 37);
            x.set(1, 38);
            String before = Paints.answers(x);
            change(x, promise);
            due("full", x.count(11), 6);
            due("undone", x.undo(), 5);
            told.same("change " + promise, Paints.answers(x), before);
        }
    }

    private void undoLeaves() {
        ThinnedPots x = begun();
        x.run();
        x.undo();
        due("the pad that run() has emptied stays empty", x.count(10), 0);
        Checks.type(x, "r;r");
        x.fill(6, 0, 1);
        x.wipe();
        x.put('r');
        x.undo();
        due("the pad of after it", x.count(10), 1);
        x = Paints.filled(0, 5, 0, 0, 0);
        x.fill(0, 0, 6);
        x.save(1);
        x.undo();
        due("the slot of after it", x.restore(1), 11);
        x.undo();
        due("restore() is undone", x.count(3), 5);
        due("and the slot is kept", x.restore(1), 11);
    }

    private void undoOfMany() {
        told.tell("24", "A history of at most 6 states is kept:");
        for (int changes = 0; changes <= 30; changes++) {
            ThinnedPots x = new ThinnedPots();
            for (int change = 1; change <= changes; change++) {
                x.fill(change % 8, 0, 1);
                due("kept", x.count(11), Math.min(change, 6));
            }
            int left = changes;
            for (int kept = Math.min(changes, 6); kept > 0; kept--) {
                due("undone", x.undo(), kept - 1);
                left--;
                due("drops", x.count(3), left);
                due("the pot that was filled last", x.pot((left + 1) % 8, 0), left / 8);
            }
            due("no more", x.undo(), NOT_POSSIBLE);
            due("as it was", x.count(3), Math.max(0, changes - 6));
        }
        told.tell("24", "when one more is recorded, the oldest one is dropped.");
        ThinnedPots x = new ThinnedPots();
        for (int value = 1; value <= 7; value++) {
            x.set(0, value);
        }
        for (int value = 6; value >= 1; value--) {
            due("to be undone", x.undo(), value - 1);
            due("the setting before", x.count(0), value);
        }
        due("the first setting is lost", x.undo(), NOT_POSSIBLE);
        due("so it is not 3", x.count(0), 1);
    }

    /** Changes, then undoing, then changes: always compared with a list of what is to come back. */
    private void undoAndMore() {
        for (int code = 0; code < 10 * 7 * 10; code++) {
            ThinnedPots x = new ThinnedPots();
            List<Integer> states = new ArrayList<>();
            changeSome(x, states, code % 10);
            for (int undos = code / 10 % 7; undos > 0; undos--) {
                undoOne(x, states);
            }
            changeSome(x, states, code / 70);
            for (int undos = 0; undos < 8; undos++) {
                undoOne(x, states);
            }
        }
    }

    private static void changeSome(ThinnedPots x, List<Integer> states, int many) {
        for (int change = 0; change < many; change++) {
            states.add(x.count(1));
            if (states.size() > 6) {
                states.remove(0);
            }
            x.set(1, (x.count(1) + change + 7) % 61);
        }
    }

    private void undoOne(ThinnedPots x, List<Integer> states) {
        if (states.isEmpty()) {
            due("no more", x.undo(), NOT_POSSIBLE);
            return;
        }
        int before = states.remove(states.size() - 1);
        due("undone", x.undo(), states.size());
        due("as it was", x.count(1), before);
    }

    private void undoRecords() {
        told.tell("24", "each method that is a change, and returns no error, records the state before it (also if nothing "
            + "is different then);");
        Call[] idle = {x -> x.set(0, 3), x -> x.set(1, 15), x -> x.empty(7), x -> x.rinse(), x -> x.want(0, 0, 0, 0),
            x -> Checks.type(x, "p0;0!") * x.run(), x -> x.restore(0)};
        for (int i = 0; i < idle.length; i++) {
            ThinnedPots x = new ThinnedPots();
            x.save(0);
            String before = Paints.answers(x);
            due("idle change " + i, idle[i].on(x) >= 0 ? 1 : 0, 1);
            due("is recorded", x.count(11), 1);
            told.same("alters nothing", Paints.answers(x), before);
            due("is undone", x.undo(), 0);
        }
        Call[] others = {x -> x.save(0), x -> x.save(1), x -> x.put('r'), x -> x.wipe(), x -> x.fault(), x -> x.undo()};
        for (int i = 0; i < others.length; i++) {
            ThinnedPots x = new ThinnedPots();
            others[i].on(x);
            due("no change " + i + " is recorded", x.count(11), 0);
        }
        ThinnedPots x = new ThinnedPots();
        Checks.type(x, "0+1r;0!;r;0+1r1y1b;d0:1;r");
        due("works", x.run(), 6);
        due("run() alone is recorded", x.undo(), 0);
        due("all works are undone", x.count(2), 0);
    }

    private void undoAnswers() {
        told.tell("24", "Returns how many changes can be undone then;");
        ThinnedPots x = begun();
        for (int left = 3; left >= 0; left--) {
            due("left", x.undo(), left);
            due("as count(11)", x.count(11), left);
        }
        told.tell("24", "NOT_POSSIBLE if there is none.");
        due("none any more", x.undo(), NOT_POSSIBLE);
        due("still none", x.undo(), NOT_POSSIBLE);
        due("none in a new object", new ThinnedPots().undo(), NOT_POSSIBLE);
        x.rinse();
        due("one again", x.undo(), 0);
    }

    private void saveEverything() {
        told.tell("25", "Saves everything except the pad, the history and the slots in a slot, and overwrites what was "
            + "saved there.");
        for (int promise : CHANGES) {
            for (int slot = 0; slot < 2; slot++) {
                ThinnedPots x = begun();
                String before = Paints.answers(x);
                x.save(slot);
                change(x, promise);
                x.rinse();
                x.restore(slot);
                told.same("saved ahead of change " + promise, Paints.answers(x), before);
            }
        }
        ThinnedPots x = begun();
        due("no change", x.save(0) >= 0 ? x.count(11) : -1, 4);
        x.wipe();
        x.restore(0);
        due("the pad is not saved", x.count(10), 0);
        due("the history is not saved", x.count(11), 5);
        x = Paints.filled(0, 4, 0, 0, 0);
        x.save(1);
        x.save(0);
        x.fill(0, 0, 5);
        x.save(1);
        x.restore(0);
        due("the slots are not saved", x.restore(1), 9);
    }

    private void saveOverwrites() {
        ThinnedPots x = new ThinnedPots();
        for (int drops = 1; drops <= 8; drops++) {
            x.fill(0, 0, 1);
            x.save(drops % 2);
        }
        due("the last one in slot 0", x.restore(0), 8);
        due("the last one in slot 1", x.restore(1), 7);
        x.empty(0);
        due("overwritten with nothing", x.save(0), 0);
        x.fill(0, 1, 3);
        due("what is done behind it is not saved", x.restore(0), 0);
        due("the other slot is as it was", x.restore(1), 7);
    }

    private void saveAnswers() {
        told.tell("25", "`slot`: 0 or 1");
        due("slot 0", new ThinnedPots().save(0), 0);
        due("slot 1", new ThinnedPots().save(1), 0);
        told.tell("25", "Returns how many drops all pots have;");
        ThinnedPots x = Paints.brushed(3, 3, 3, 0);
        due("but not the brush", x.save(0), 0);
        for (int pot = 0; pot < 8; pot++) {
            x.fill(pot, pot % 4, 81);
            due("full pots", x.save(1), 81 * (pot + 1));
        }
        told.tell("25", "BAD_VALUE if there is no such slot.");
        due("slot -1", x.save(-1), BAD_VALUE);
        due("slot 2", x.save(2), BAD_VALUE);
    }

    private void restores() {
        told.tell("26", "Restores what was saved last in a slot, which keeps it.");
        ThinnedPots x = begun();
        x.save(0);
        String saved = Paints.answers(x);
        for (int promise = 2; promise <= 11; promise++) {
            change(x, promise);
        }
        told.holds("much is altered", !saved.equals(Paints.answers(x)));
        x.restore(0);
        told.same("as it was saved", Paints.answers(x), saved);
        x = begun();
        x.save(0);
        x.restore(0);
        x.set(0, 9);
        x.empty(0);
        x.rinse();
        x.restore(0);
        told.same("the slot keeps it", Paints.answers(x), saved);
        x.restore(1);
        x.undo();
        told.same("undone from the other slot", Paints.answers(x), saved);
    }

    private void restoreAnswers() {
        told.tell("26", "`slot`: 0 or 1");
        for (int slot = 0; slot < 2; slot++) {
            ThinnedPots x = Paints.filled(slot, 0, 5, 0, 0);
            x.save(slot);
            x.empty(slot);
            due("slot " + slot, x.restore(slot), 5);
            due("its pot", x.pot(slot, 1), 5);
        }
        told.tell("26", "Returns how many drops all pots have then;");
        ThinnedPots x = new ThinnedPots();
        x.save(0);
        for (int pot = 0; pot < 8; pot++) {
            x.fill(pot, pot % 4, 81);
        }
        x.save(1);
        due("none", x.restore(0), 0);
        due("full pots", x.restore(1), 648);
        told.tell("26", "BAD_VALUE if there is no such slot;");
        due("slot -1", x.restore(-1), BAD_VALUE);
        due("slot 2", x.restore(2), BAD_VALUE);
        told.tell("26", "NOT_POSSIBLE if nothing was saved in it.");
        due("slot 0", new ThinnedPots().restore(0), NOT_POSSIBLE);
        due("slot 1", new ThinnedPots().restore(1), NOT_POSSIBLE);
        for (int slot = 0; slot < 2; slot++) {
            x = new ThinnedPots();
            x.save(slot);
            due("only the other one", x.restore(1 - slot), NOT_POSSIBLE);
            due("this one, though nothing was in it", x.restore(slot), 0);
        }
    }
}
