/** The sentences of the promises 1 to 10: a new object, and the changes but for run(). */
final class ChangeEdges {
    private static final int NO_SUCH = -1, BAD_VALUE = -2, TOO_MANY = -4, NOT_POSSIBLE = -5, NONE = -6;
    private final Sentences told;

    ChangeEdges(Sentences told) {
        this.told = told;
    }

    void all() {
        newObject();
        set();
        fillArguments();
        fillHolds();
        thin();
        pourArguments();
        pourHolds();
        empty();
        dipArguments();
        dipHolds();
        paint();
        paintDistance();
        rinse();
        want();
    }

    private void due(String call, long got, long want) {
        told.due(call, got, want);
    }

    private void newObject() {
        told.tell("1", "Creates empty pots, a clean brush, and panels that are not painted.");
        ThinnedPots used = Paints.brushed(1, 2, 3, 3);
        used.paint(0);
        used.save(0);
        ThinnedPots x = new ThinnedPots();
        for (int pot = 0; pot < 8; pot++) {
            told.same("pot " + pot, Paints.held(x, pot), Paints.drops(0, 0, 0, 0));
            due("thinned", x.pot(pot, 8), 0);
        }
        told.same("brush", Paints.onBrush(x), Paints.drops(0, 0, 0, 0));
        for (int panel = 0; panel < 6; panel++) {
            due("not painted", x.panel(panel, 3), NONE);
            due("no stroke", x.panel(panel, 8), 0);
        }
        for (int what = 2; what < 12; what++) {
            due("count " + what, x.count(what), 0);
        }
        due("nothing to undo", x.undo(), NOT_POSSIBLE);
        due("nothing saved", x.restore(0), NOT_POSSIBLE);
    }

    private void set() {
        told.tell("2", "Changes a setting.");
        ThinnedPots x = new ThinnedPots();
        x.set(0, 7);
        due("STROKE alone", x.count(1), 15);
        x.set(1, 7);
        due("NEAR", x.count(1), 7);
        due("STROKE is as it was", x.count(0), 7);
        told.tell("2", "Returns the previous value;");
        x = new ThinnedPots();
        due("the first STROKE", x.set(0, 9), 3);
        due("the greatest", x.set(0, 1), 9);
        due("the least", x.set(0, 1), 1);
        due("the same", x.set(0, 3), 1);
        due("the first NEAR", x.set(1, 60), 15);
        due("the greatest", x.set(1, 0), 60);
        due("the least", x.set(1, 0), 0);
        due("the same", x.set(1, 15), 0);
        told.tell("2", "BAD_VALUE if there is no such setting, or value is out of its range.");
        due("setting -1", x.set(-1, 3), BAD_VALUE);
        due("setting 2", x.set(2, 3), BAD_VALUE);
        due("STROKE 0", x.set(0, 0), BAD_VALUE);
        due("STROKE 10", x.set(0, 10), BAD_VALUE);
        due("STROKE as NEAR may be", x.set(0, 60), BAD_VALUE);
        due("NEAR -1", x.set(1, -1), BAD_VALUE);
        due("NEAR 61", x.set(1, 61), BAD_VALUE);
        due("STROKE is as it was", x.count(0), 3);
        due("NEAR is as it was", x.count(1), 15);
    }

    private void fillArguments() {
        told.tell("3", "`kind`: 0 to 3");
        for (int kind = 0; kind < 4; kind++) {
            ThinnedPots x = new ThinnedPots();
            due("kind " + kind, x.fill(4, kind, 5), 5);
            told.same("only this kind", Paints.held(x, 4),
                Paints.drops(kind == 0 ? 5 : 0, kind == 1 ? 5 : 0, kind == 2 ? 5 : 0, kind == 3 ? 5 : 0));
        }
        due("kind -1", new ThinnedPots().fill(4, -1, 5), NO_SUCH);
        due("kind 4", new ThinnedPots().fill(4, 4, 5), NO_SUCH);
        told.tell("3", "`drops`: 1 to 81");
        for (int drops = 1; drops <= 81; drops++) {
            due(drops + " drops", new ThinnedPots().fill(drops % 8, drops % 4, drops), drops);
        }
        told.tell("3", "NO_SUCH if there is no such pot or kind;");
        ThinnedPots x = Paints.filled(3, 0, 0, 0, 4);
        due("pot -1", x.fill(-1, 3, 1), NO_SUCH);
        due("pot 8", x.fill(8, 3, 1), NO_SUCH);
        // Kind 4 of pot 2 would be kind 0 of pot 3, and kind -1 of pot 4 kind 3 of pot 3.
        due("kind 4", x.fill(2, 4, 1), NO_SUCH);
        due("kind -1", x.fill(4, -1, 1), NO_SUCH);
        told.same("the pot beside it", Paints.held(x, 3), Paints.drops(0, 0, 0, 4));
        told.tell("3", "BAD_VALUE if drops is out of range;");
        due("0", x.fill(0, 0, 0), BAD_VALUE);
        due("-1", x.fill(3, 3, -1), BAD_VALUE);
        due("82", x.fill(0, 0, 82), BAD_VALUE);
        due("nothing came or went", x.count(3), 4);
    }

    private void fillHolds() {
        told.tell("3", "Puts drops of a kind into a pot.");
        ThinnedPots x = Paints.filled(5, 1, 2, 3, 4);
        x.fill(5, 1, 9);
        told.same("9 of y", Paints.held(x, 5), Paints.drops(1, 11, 3, 4));
        due("the other pots have none", x.count(3), 19);
        told.tell("3", "Returns how many drops it has in all then;");
        x = new ThinnedPots();
        for (int all = 1; all <= 81; all++) {
            due("drop " + all, x.fill(6, all % 4, 1), all);
        }
        told.tell("3", "TOO_MANY if it would have more than 81.");
        for (int kind = 0; kind < 4; kind++) {
            for (int held = 1; held <= 81; held++) {
                x = new ThinnedPots();
                x.fill(0, 3 - kind, held);
                due("one too many on " + held, x.fill(0, kind, 82 - held), TOO_MANY);
                due("as it was", x.pot(0, 4), held);
                if (held < 81) {
                    due("full from " + held, x.fill(0, kind, 81 - held), 81);
                }
            }
        }
    }

    private void thin() {
        told.tell("4", "Thins a pot: thinner is put in until it has three times as many drops as before.");
        ThinnedPots x = new ThinnedPots();
        for (int drops = 1; drops <= 27; drops++) {
            x = Paints.filled(7, drops / 2, 0, 0, drops - drops / 2);
            x.thin(7);
            told.same(drops + " drops", Paints.held(x, 7), Paints.drops(drops / 2, 0, 0, 3 * drops - drops / 2));
        }
        told.tell("4", "Returns how many drops it has in all then;");
        x = Paints.filled(0, 0, 0, 1, 0);
        for (int all = 3; all <= 81; all *= 3) {
            due("three times as many", x.thin(0), all);
        }
        told.tell("4", "NO_SUCH if there is no such pot;");
        due("pot -1", x.thin(-1), NO_SUCH);
        due("pot 8", x.thin(8), NO_SUCH);
        told.tell("4", "NOT_POSSIBLE if it is empty;");
        due("never filled", x.thin(1), NOT_POSSIBLE);
        x.empty(0);
        due("emptied", x.thin(0), NOT_POSSIBLE);
        x.fill(2, 0, 2);
        x.pour(2, 3, 2);
        due("poured out", x.thin(2), NOT_POSSIBLE);
        x.dip(3, 2);
        due("dipped out", x.thin(3), NOT_POSSIBLE);
        due("not counted", x.pot(3, 8), 0);
        told.tell("4", "TOO_MANY if it would have more than 81.");
        for (int drops = 1; drops <= 81; drops++) {
            x = Paints.filled(0, drops, 0, 0, 0);
            due(drops + " drops", x.thin(0), drops <= 27 ? 3 * drops : TOO_MANY);
            due("how often", x.pot(0, 8), drops <= 27 ? 1 : 0);
        }
    }

    private void pourArguments() {
        told.tell("5", "`drops`: 1 to 81");
        for (int drops = 1; drops <= 81; drops++) {
            due(drops + " drops", Paints.filled(0, 0, 81, 0, 0).pour(0, 1, drops), drops);
        }
        told.tell("5", "NO_SUCH if there is no such pot;");
        ThinnedPots x = Paints.filled(0, 9, 0, 0, 0);
        due("pot -1", x.pour(-1, 0, 1), NO_SUCH);
        due("pot 8", x.pour(8, 0, 1), NO_SUCH);
        due("other -1", x.pour(0, -1, 1), NO_SUCH);
        due("other 8", x.pour(0, 8, 1), NO_SUCH);
        due("the brush is no pot", x.brush(4), 0);
        told.tell("5", "BAD_VALUE if both are the same, or drops is out of range;");
        for (int pot = 0; pot < 8; pot++) {
            due("both are pot " + pot, Paints.filled(pot, 0, 0, 9, 0).pour(pot, pot, 1), BAD_VALUE);
        }
        due("0 drops", x.pour(0, 1, 0), BAD_VALUE);
        due("-1 drops", x.pour(0, 1, -1), BAD_VALUE);
        due("82 drops", x.pour(0, 1, 82), BAD_VALUE);
        told.same("as it was", Paints.held(x, 0), Paints.drops(9, 0, 0, 0));
    }

    private void pourHolds() {
        told.tell("5", "Pours drops from a pot into another one.");
        ThinnedPots x = Paints.filled(0, 1, 1, 1, 1);
        Paints.fillPot(x, 7, 9, 0, 0, 9);
        x.pour(0, 7, 4);
        told.same("from", Paints.held(x, 0), Paints.drops(0, 0, 0, 0));
        told.same("into", Paints.held(x, 7), Paints.drops(10, 1, 1, 10));
        told.tell("5", "Returns how many drops the other one has in all then;");
        due("the other one", x.pour(7, 0, 3), 3);
        due("the other one", x.pour(0, 7, 1), 20);
        due("the other one", x.pour(0, 7, 2), 22);
        told.tell("5", "NOT_POSSIBLE if the pot has not so many;");
        for (int held = 0; held <= 81; held++) {
            x = Paints.filled(1, 0, 0, 0, held);
            if (held < 81) {
                due("one more than " + held, x.pour(1, 2, held + 1), NOT_POSSIBLE);
                due("81 of " + held, x.pour(1, 2, 81), NOT_POSSIBLE);
            }
            if (held > 0) {
                due("all " + held, x.pour(1, 2, held), held);
            }
        }
        told.tell("5", "TOO_MANY if the other one would have more than 81.");
        for (int held = 1; held <= 81; held++) {
            x = Paints.filled(1, 81, 0, 0, 0);
            Paints.fillPot(x, 2, 0, held, 0, 0);
            due("one too many on " + held, x.pour(1, 2, 82 - held), TOO_MANY);
            due("as it was", x.pot(2, 4), held);
            if (held < 81) {
                due("full from " + held, x.pour(1, 2, 81 - held), 81);
            }
        }
    }

    private void empty() {
        told.tell("6", "Empties a pot into the sink; its drops count as rinsed.");
        ThinnedPots x = Paints.filled(0, 20, 20, 20, 21);
        Paints.fillPot(x, 1, 0, 0, 0, 1);
        x.empty(0);
        told.same("the pot", Paints.held(x, 0), Paints.drops(0, 0, 0, 0));
        due("the next pot", x.pot(1, 4), 1);
        due("rinsed", x.count(5), 81);
        due("the brush was not rinsed", x.count(9), 0);
        x.empty(0);
        due("none more", x.count(5), 81);
        told.tell("6", "Returns how many drops it had;");
        due("one", x.empty(1), 1);
        due("none", x.empty(1), 0);
        due("never filled", x.empty(7), 0);
        x.fill(7, 0, 81);
        due("full", x.empty(7), 81);
        told.tell("6", "NO_SUCH if there is no such pot.");
        x = Paints.brushed(1, 1, 1, 1);
        due("pot -1", x.empty(-1), NO_SUCH);
        due("pot 8", x.empty(8), NO_SUCH);
        due("the brush is no pot", x.brush(4), 4);
    }

    private void dipArguments() {
        told.tell("7", "`drops`: 1 to 9");
        for (int drops = 1; drops <= 9; drops++) {
            due(drops + " drops", Paints.filled(0, 81, 0, 0, 0).dip(0, drops), drops);
        }
        told.tell("7", "NO_SUCH if there is no such pot;");
        ThinnedPots x = Paints.brushed(4, 0, 0, 0);
        due("pot -1", x.dip(-1, 1), NO_SUCH);
        due("pot 8, behind which the brush may stand", x.dip(8, 1), NO_SUCH);
        due("pot 9", x.dip(9, 1), NO_SUCH);
        told.tell("7", "BAD_VALUE if drops is out of range;");
        x.fill(0, 0, 81);
        due("0 drops", x.dip(0, 0), BAD_VALUE);
        due("-1 drops", x.dip(0, -1), BAD_VALUE);
        due("10 drops", x.dip(0, 10), BAD_VALUE);
        due("as it was", x.brush(4), 4);
    }

    private void dipHolds() {
        told.tell("7", "Dips the brush into a pot: it takes drops, which mix with what it has.");
        ThinnedPots x = Paints.brushed(1, 0, 0, 1);
        Paints.fillPot(x, 0, 6, 0, 6, 0);
        x.dip(0, 4);
        told.same("the brush", Paints.onBrush(x), Paints.drops(3, 0, 2, 1));
        told.same("the pot", Paints.held(x, 0), Paints.drops(4, 0, 4, 0));
        told.tell("7", "Returns how many drops the brush has then;");
        due("two more", x.dip(0, 2), 8);
        due("one more", x.dip(0, 1), 9);
        told.tell("7", "NOT_POSSIBLE if the pot has not so many;");
        for (int held = 0; held <= 9; held++) {
            x = Paints.filled(1, 0, held, 0, 0);
            if (held < 9) {
                due("one more than " + held, x.dip(1, held + 1), NOT_POSSIBLE);
            }
            if (held > 0) {
                due("all " + held, x.dip(1, held), held);
            }
        }
        told.tell("7", "TOO_MANY if the brush would have more than 9.");
        for (int held = 1; held <= 9; held++) {
            x = Paints.brushed(0, 0, held, 0);
            x.fill(0, 0, 81);
            due("one too many on " + held, x.dip(0, 10 - held), TOO_MANY);
            due("the pot is as it was", x.pot(0, 4), 81);
            if (held < 9) {
                due("full from " + held, x.dip(0, 9 - held), 9);
            }
        }
    }

    private void paint() {
        told.tell("8", "Paints a panel: its shade becomes that of the brush as it is ahead of it, and STROKE drops are "
            + "taken out of the brush.");
        ThinnedPots x = Paints.brushed(2, 1, 0, 0);
        x.paint(2);
        due("r with all drops taken", x.panel(2, 3), 66);
        due("y", x.panel(2, 4), 33);
        due("b", x.panel(2, 5), 0);
        due("none left", x.brush(4), 0);
        due("the panels beside it", x.count(6), 1);
        x = Paints.brushed(2, 1, 1, 0);
        x.paint(0);
        due("r ahead of it", x.panel(0, 3), 50);
        due("r behind it", x.brush(5), 100);
        due("only from the brush", x.count(3), 0);
        told.tell("8", "NO_SUCH if there is no such panel;");
        x = Paints.brushed(9, 0, 0, 0);
        due("panel -1", x.paint(-1), NO_SUCH);
        due("panel 6", x.paint(6), NO_SUCH);
        due("nothing was taken", x.brush(4), 9);
        told.tell("8", "NOT_POSSIBLE if the brush has fewer drops than STROKE.");
        for (int stroke = 1; stroke <= 9; stroke++) {
            for (int held = 0; held <= 9; held++) {
                x = Paints.brushed(0, 0, held, 0);
                x.set(0, stroke);
                due(held + " drops for " + stroke, x.paint(5), held < stroke ? NOT_POSSIBLE : 100);
                due("drops on panels", x.count(4), held < stroke ? 0 : stroke);
                due("left on the brush", x.brush(4), held < stroke ? held : held - stroke);
            }
        }
    }

    private void paintDistance() {
        told.tell("8", "Returns the distance of its shade from the wanted one then;");
        ThinnedPots x = Paints.brushed(3, 3, 3, 0);
        x.want(1, 33, 33, 33);
        x.want(2, 34, 32, 33);
        x.want(3, 100, 100, 100);
        due("as wanted", x.paint(1), 0);
        due("beside it", x.paint(2), 2);
        due("far", x.paint(3), 201);
        x.fill(0, 3, 3);
        x.dip(0, 3);
        due("painted anew", x.paint(1), 99);
        due("a panel that wants nothing", Paints.brushed(0, 0, 0, 3).paint(5), 0);
    }

    private void rinse() {
        told.tell("9", "Rinses the brush: what it has is rinsed.");
        ThinnedPots x = Paints.brushed(2, 3, 1, 3);
        x.fill(0, 0, 5);
        x.rinse();
        told.same("clean", Paints.onBrush(x), Paints.drops(0, 0, 0, 0));
        due("no strength", x.brush(5), NONE);
        due("rinsed", x.count(5), 9);
        due("the pots are as they were", x.count(3), 5);
        told.tell("9", "Returns how many drops it had.");
        due("none", x.rinse(), 0);
        for (int held = 0; held <= 9; held++) {
            due("as many", Paints.brushed(held, 0, 0, 0).rinse(), held);
        }
        due("a new object", new ThinnedPots().rinse(), 0);
    }

    private void want() {
        told.tell("10", "Changes the wanted shade of a panel.");
        ThinnedPots x = new ThinnedPots();
        x.want(2, 7, 8, 9);
        due("r", x.panel(2, 0), 7);
        due("y", x.panel(2, 1), 8);
        due("b", x.panel(2, 2), 9);
        due("the panel ahead of it", x.panel(1, 2), 0);
        due("the panel behind it", x.panel(3, 0), 0);
        told.tell("10", "`r`: 0 to 100, and so on");
        for (int strength = 0; strength <= 100; strength++) {
            x.want(5, strength, 100 - strength, strength / 2);
            due("r", x.panel(5, 0), strength);
            due("y", x.panel(5, 1), 100 - strength);
            due("b", x.panel(5, 2), strength / 2);
        }
        due("100 each", x.want(5, 100, 100, 100), 0);
        told.tell("10", "Returns how many panels are well then;");
        x = Paints.brushed(6, 0, 0, 0);
        x.set(0, 1);
        for (int panel = 0; panel < 6; panel++) {
            x.paint(panel);
        }
        for (int panel = 0; panel < 6; panel++) {
            due("one more", x.want(panel, 100, 0, 15), panel + 1);
        }
        due("one less", x.want(3, 84, 0, 0), 5);
        due("at the edge", x.want(3, 85, 0, 0), 6);
        due("not painted", new ThinnedPots().want(0, 0, 0, 0), 0);
        told.tell("10", "NO_SUCH if there is no such panel;");
        due("panel -1", x.want(-1, 0, 0, 0), NO_SUCH);
        due("panel 6", x.want(6, 0, 0, 0), NO_SUCH);
        told.tell("10", "BAD_VALUE if a strength is out of range.");
        for (int bad : new int[] {-1, 101}) {
            due("r " + bad, x.want(0, bad, 0, 0), BAD_VALUE);
            due("y " + bad, x.want(0, 0, bad, 0), BAD_VALUE);
            due("b " + bad, x.want(0, 0, 0, bad), BAD_VALUE);
        }
        due("as it was", x.panel(0, 0), 100);
    }
}
