import java.util.ArrayList;
import java.util.List;

/** The sentences of the promises 12 to 20: what there is, and what if. */
final class LookEdges {
    private static final int NO_SUCH = -1, BAD_VALUE = -2, NOT_POSSIBLE = -5, NONE = -6;
    private static final List<int[]> ORDERS = orders();
    private final Sentences told;

    LookEdges(Sentences told) {
        this.told = told;
    }

    void all() {
        pot();
        brush();
        panel();
        countOfEach();
        countOfOne();
        countSoFar();
        nearest();
        nearestOfSeveral();
        bestThinning();
        bestThinningOfSeveral();
        mixtureFormula();
        mixtureOfSeveral();
        mixtureNumbers();
        rinses();
        bestOrder();
    }

    private void due(String call, long got, long want) {
        told.due(call, got, want);
    }

    private void pot() {
        told.tell("12", "Returns something about a pot.");
        ThinnedPots x = Paints.filled(0, 5, 0, 0, 0);
        Paints.fillPot(x, 7, 0, 0, 3, 1);
        due("the first pot", x.pot(0, 4), 5);
        due("the last pot", x.pot(7, 4), 4);
        due("a pot between", x.pot(3, 4), 0);
        told.tell("12", "`what`: 0 to 3 its drops of the kinds, 4 its drops in all, 5 to 7 the strengths of the "
            + "pigments (NONE if it is empty), 8 how often it was thinned so far");
        x = Paints.filled(4, 1, 2, 4, 0);
        x.thin(4);
        int[] numbers = {1, 2, 4, 14, 21, 4, 9, 19, 1};
        for (int what = 0; what < 9; what++) {
            due("what " + what, x.pot(4, what), numbers[what]);
        }
        x.empty(4);
        int[] emptied = {0, 0, 0, 0, 0, NONE, NONE, NONE, 1};
        for (int what = 0; what < 9; what++) {
            due("what " + what + " of an emptied pot", x.pot(4, what), emptied[what]);
        }
        x.fill(4, 3, 1);
        due("thinner alone has a strength", x.pot(4, 7), 0);
        for (int times = 2; times <= 5; times++) {
            x.thin(4);
            due("so far, also ahead of its emptying", x.pot(4, 8), times);
        }
        due("the others", x.pot(3, 8), 0);
        for (int pot = 0; pot < 8; pot++) {
            x = Paints.filled(pot, 1, 0, 0, 0);
            x.thin(pot);
            for (int other = 0; other < 8; other++) {
                due("pot " + other + " as pot " + pot + " was thinned", x.pot(other, 8), other == pot ? 1 : 0);
            }
        }
        told.tell("12", "Returns the number; NO_SUCH if there is no such pot;");
        x = Paints.filled(4, 1, 0, 0, 0);
        due("pot -1", x.pot(-1, 0), NO_SUCH);
        due("pot 8", x.pot(8, 8), NO_SUCH);
        told.tell("12", "BAD_VALUE if what is out of range.");
        due("what -1", x.pot(4, -1), BAD_VALUE);
        due("what 9", x.pot(4, 9), BAD_VALUE);
        due("what 9 of an empty pot", x.pot(0, 9), BAD_VALUE);
    }

    private void brush() {
        told.tell("13", "Returns something about the brush.");
        due("it has 3 drops", Paints.brushed(0, 0, 3, 0).brush(4), 3);
        told.tell("13", "`what`: 0 to 3 its drops of the kinds, 4 its drops in all, 5 to 7 the strengths of the "
            + "pigments (NONE if it has none)");
        int[] none = {0, 0, 0, 0, 0, NONE, NONE, NONE};
        int[] some = {1, 2, 4, 1, 8, 12, 25, 50};
        ThinnedPots x = Paints.brushed(1, 2, 4, 1);
        for (int what = 0; what < 8; what++) {
            due("clean, what " + what, new ThinnedPots().brush(what), none[what]);
            due("what " + what, x.brush(what), some[what]);
        }
        x.set(0, 8);
        x.paint(0);
        for (int what = 0; what < 8; what++) {
            due("painted out, what " + what, x.brush(what), none[what]);
        }
        due("thinner alone has a strength", Paints.brushed(0, 0, 0, 1).brush(5), 0);
        told.tell("13", "Returns the number; BAD_VALUE if what is out of range.");
        due("what -1", x.brush(-1), BAD_VALUE);
        due("what 8, which a pot has", x.brush(8), BAD_VALUE);
    }

    private void panel() {
        told.tell("14", "Returns something about a panel.");
        ThinnedPots x = Paints.brushed(1, 2, 4, 1);
        x.want(5, 1, 2, 3);
        due("the last panel", x.panel(5, 2), 3);
        due("the one ahead of it", x.panel(4, 2), 0);
        told.tell("14", "`what`: 0 to 2 the wanted strengths, 3 to 5 the strengths with which it was painted (NONE if it "
            + "is not), 6 the distance of both shades (NONE), 7 whether it is well (1 or 0), 8 strokes on it so far");
        int[] plain = {1, 2, 3, NONE, NONE, NONE, NONE, 0, 0};
        for (int what = 0; what < 9; what++) {
            due("not painted, what " + what, x.panel(5, what), plain[what]);
        }
        x.paint(5);
        int[] painted = {1, 2, 3, 12, 25, 50, 81, 0, 1};
        for (int what = 0; what < 9; what++) {
            due("painted, what " + what, x.panel(5, what), painted[what]);
        }
        x.want(5, 12, 25, 35);
        due("the distance is of the wanted shade now", x.panel(5, 6), 15);
        due("well at 15", x.panel(5, 7), 1);
        x.paint(5);
        due("two strokes", x.panel(5, 8), 2);
        due("the others", x.panel(4, 8), 0);
        told.tell("14", "Returns the number; NO_SUCH if there is no such panel;");
        due("panel -1", x.panel(-1, 0), NO_SUCH);
        due("panel 6", x.panel(6, 8), NO_SUCH);
        told.tell("14", "BAD_VALUE if what is out of range.");
        due("what -1", x.panel(5, -1), BAD_VALUE);
        due("what 9", x.panel(5, 9), BAD_VALUE);
        due("what 9 of a panel that is not painted", x.panel(0, 9), BAD_VALUE);
    }

    private void countOfEach() {
        told.tell("15", "Returns a number.");
        due("none at first", new ThinnedPots().count(3), 0);
        told.tell("15", "`what`: 0 and 1 the settings, 2 drops put into pots so far, thinner of thin() too, 3 drops in "
            + "all pots, 4 drops on panels, of all strokes so far, 5 drops rinsed so far, 6 panels that are painted, "
            + "7 those that are well, 8 strokes so far, 9 how often the brush was rinsed so far with drops in it, 10 the "
            + "length of the pad, 11 how many changes can be undone");
        ThinnedPots x = Paints.filled(0, 27, 0, 0, 0);
        counts("filled", x, 3, 15, 27, 27, 0, 0, 0, 0, 0, 0, 0, 1);
        x.thin(0);
        counts("thinned", x, 3, 15, 81, 81, 0, 0, 0, 0, 0, 0, 0, 2);
        x.pour(0, 7, 40);
        counts("poured", x, 3, 15, 81, 81, 0, 0, 0, 0, 0, 0, 0, 3);
        x.dip(0, 9);
        counts("dipped", x, 3, 15, 81, 72, 0, 0, 0, 0, 0, 0, 0, 4);
        x.paint(0);
        counts("painted", x, 3, 15, 81, 72, 3, 0, 1, 0, 1, 0, 0, 5);
        x.paint(0);
        counts("painted again", x, 3, 15, 81, 72, 6, 0, 1, 0, 2, 0, 0, 6);
        x.want(0, 33, 0, 0);
        counts("wanted", x, 3, 15, 81, 72, 6, 0, 1, 1, 2, 0, 0, 6);
        x.rinse();
        counts("rinsed", x, 3, 15, 81, 72, 6, 3, 1, 1, 2, 1, 0, 6);
        x.rinse();
        counts("rinsed with none", x, 3, 15, 81, 72, 6, 3, 1, 1, 2, 1, 0, 6);
        x.empty(7);
        counts("emptied", x, 3, 15, 81, 32, 6, 43, 1, 1, 2, 1, 0, 6);
        x.set(0, 9);
        x.set(1, 60);
        x.put('r');
        counts("set", x, 9, 60, 81, 32, 6, 43, 1, 1, 2, 1, 1, 6);
    }

    private void counts(String when, ThinnedPots x, int... numbers) {
        for (int what = 0; what < 12; what++) {
            due(when + ", what " + what, x.count(what), numbers[what]);
        }
    }

    private void countOfOne() {
        for (int panel = 0; panel < 6; panel++) {
            ThinnedPots x = Paints.brushed(0, 0, 0, 4);
            x.paint(panel);
            counts("panel " + panel + " alone", x, 3, 15, 4, 0, 3, 0, 1, 1, 1, 0, 0, 3);
            x.rinse();
            counts("one drop rinsed", x, 3, 15, 4, 0, 3, 1, 1, 1, 1, 1, 0, 4);
        }
        for (int pot = 0; pot < 8; pot++) {
            ThinnedPots x = Paints.filled(pot, 0, 0, 1, 0);
            counts("pot " + pot + " alone", x, 3, 15, 1, 1, 0, 0, 0, 0, 0, 0, 0, 1);
            x.empty(pot);
            counts("emptied", x, 3, 15, 1, 0, 0, 1, 0, 0, 0, 0, 0, 2);
        }
        ThinnedPots x = new ThinnedPots();
        for (int length = 1; length <= 60; length++) {
            x.put('+');
            due("length of the pad", x.count(10), length);
        }
    }

    private void countSoFar() {
        told.tell("15", "Returns the number; BAD_VALUE if what is out of range.");
        ThinnedPots x = new ThinnedPots();
        due("what -1", x.count(-1), BAD_VALUE);
        due("what 12", x.count(12), BAD_VALUE);
        // As many calls as an object is promised for: what is counted so far goes far above 81.
        for (int round = 0; round < 125; round++) {
            x.fill(0, 0, 81);
            x.dip(0, 9);
            x.rinse();
            x.empty(0);
        }
        due("put in", x.count(2), 125 * 81);
        due("rinsed", x.count(5), 125 * 81);
        due("rinses", x.count(9), 125);
        due("in pots", x.count(3), 0);
        due("undo", x.count(11), 6);
    }

    private void nearest() {
        told.tell("16", "`what`: 0 the pot, 1 the distance");
        ThinnedPots x = Paints.filled(7, 1, 1, 0, 2);
        due("the only pot", x.nearest(5, 0), 7);
        due("its distance", x.nearest(5, 1), 50);
        told.tell("16", "Returns the number; NO_SUCH if there is no such panel;");
        due("panel -1", x.nearest(-1, 0), NO_SUCH);
        due("panel 6", x.nearest(6, 1), NO_SUCH);
        told.tell("16", "BAD_VALUE if what is neither 0 nor 1;");
        due("what -1", x.nearest(0, -1), BAD_VALUE);
        due("what 2", x.nearest(0, 2), BAD_VALUE);
        told.tell("16", "NONE if all pots are empty.");
        x = Paints.brushed(3, 0, 0, 0);
        for (int panel = 0; panel < 6; panel++) {
            due("no pot, though the brush has paint", x.nearest(panel, 0), NONE);
            due("no distance", x.nearest(panel, 1), NONE);
        }
        for (int pot = 0; pot < 8; pot++) {
            x = Paints.filled(pot, 0, 0, 0, 1);
            due("thinner alone is paint", x.nearest(0, 0), pot);
            due("and has a distance", x.nearest(0, 1), 0);
        }
    }

    private void nearestOfSeveral() {
        told.tell("16", "Finds the pot whose shade is the nearest to the wanted one of a panel; of several the lowest.");
        ThinnedPots x = new ThinnedPots();
        for (int pot = 7; pot >= 0; pot--) {
            x.fill(pot, 1, 1);
            due("the lowest of those from " + pot, x.nearest(0, 0), pot);
            due("distance", x.nearest(0, 1), 100);
        }
        x = Paints.filled(2, 1, 0, 0, 0);
        Paints.fillPot(x, 4, 0, 1, 0, 0);
        x.want(1, 50, 50, 0);
        due("different ones as far", x.nearest(1, 0), 2);
        x.want(1, 49, 50, 0);
        due("the greater one is nearer by 2", x.nearest(1, 0), 4);
        due("distance", x.nearest(1, 1), 99);
        x.want(1, 51, 50, 0);
        due("the lower one is nearer by 2", x.nearest(1, 0), 2);
        x = Paints.filled(5, 1, 0, 0, 0);
        x.want(0, 0, 100, 100);
        due("as far as can be", x.nearest(0, 0), 5);
        due("300", x.nearest(0, 1), 300);
    }

    private void bestThinning() {
        told.tell("17", "`what`: 0 how often, 1 the distance then");
        ThinnedPots x = Paints.filled(7, 1, 0, 0, 0);
        int[] wanted = {100, 33, 11, 3, 1};
        for (int times = 0; times < 5; times++) {
            x.want(5, wanted[times], 5, 0);
            due("how often", x.bestThinning(5, 7, 0), times);
            due("distance", x.bestThinning(5, 7, 1), 5);
        }
        told.tell("17", "Returns the number; NO_SUCH if there is no such panel or pot;");
        due("panel -1", x.bestThinning(-1, 7, 0), NO_SUCH);
        due("panel 6", x.bestThinning(6, 7, 0), NO_SUCH);
        due("pot -1", x.bestThinning(0, -1, 0), NO_SUCH);
        due("pot 8", x.bestThinning(0, 8, 0), NO_SUCH);
        told.tell("17", "BAD_VALUE if what is neither 0 nor 1;");
        due("what -1", x.bestThinning(0, 7, -1), BAD_VALUE);
        due("what 2", x.bestThinning(0, 7, 2), BAD_VALUE);
        told.tell("17", "NOT_POSSIBLE if the pot is empty.");
        due("never filled", x.bestThinning(0, 6, 0), NOT_POSSIBLE);
        x.empty(7);
        due("emptied", x.bestThinning(0, 7, 1), NOT_POSSIBLE);
    }

    private void bestThinningOfSeveral() {
        told.tell("17", "Finds how often a pot is to be thinned, one after the other, as often as thin() can be done, to "
            + "come the nearest to the wanted shade of a panel; of several the least number.");
        for (int drops = 1; drops <= 81; drops++) {
            ThinnedPots x = Paints.filled(0, 0, drops, 0, 0);
            int most = drops <= 1 ? 4 : drops <= 3 ? 3 : drops <= 9 ? 2 : drops <= 27 ? 1 : 0;
            due("as often as can be with " + drops, x.bestThinning(0, 0, 0), most);
            due("distance", x.bestThinning(0, 0, 1), new int[] {100, 33, 11, 3, 1}[most]);
            due("it is not thinned", x.pot(0, 4), drops);
        }
        ThinnedPots x = Paints.filled(1, 0, 0, 0, 1);
        due("thinner stays as it is: the least number", x.bestThinning(0, 1, 0), 0);
        x = Paints.filled(2, 1, 0, 0, 0);
        x.want(0, 22, 0, 0);
        due("33 and 11 are as far from 22", x.bestThinning(0, 2, 0), 1);
        due("distance", x.bestThinning(0, 2, 1), 11);
        x.want(0, 7, 0, 0);
        due("11 and 3 are as far from 7", x.bestThinning(0, 2, 0), 2);
        x.want(0, 2, 0, 0);
        due("3 and 1 are as far from 2", x.bestThinning(0, 2, 0), 3);
        x = Paints.filled(3, 1, 1, 1, 0);
        x.thin(3);
        x.want(0, 0, 0, 4);
        due("from what it is now: 9 to 27 and 81", x.bestThinning(0, 3, 0), 2);
        // 1 drop each of 9, 27 and 81 is a strength of 11, 3 and 1.
        due("distance", x.bestThinning(0, 3, 1), 1 + 1 + 3);
    }

    private void mixture(String which, ThinnedPots x, int... numbers) {
        for (int what = 0; what < 5; what++) {
            due(which + ", what " + what, x.bestMixture(0, what), numbers[what]);
        }
    }

    private void mixtureFormula() {
        told.tell("18", "Finds the best mixture of two pots for the wanted shade of a panel: 1 to 9 parts of the one, and "
            + "1 to 9 of the other, whatever they hold.");
        ThinnedPots x = Paints.filled(0, 1, 0, 0, 0);
        Paints.fillPot(x, 7, 0, 0, 0, 81);
        x.want(0, 0, 0, 0);
        mixture("1 part to 9", x, 0, 7, 1, 9, 10);
        x.want(0, 100, 0, 0);
        mixture("9 parts of 1 drop to 1", x, 0, 7, 9, 1, 10);
        x = Paints.filled(0, 0, 0, 0, 81);
        Paints.fillPot(x, 7, 1, 0, 0, 0);
        x.want(0, 0, 0, 0);
        mixture("9 parts of 81 drops to 1", x, 0, 7, 9, 1, 10);
        x.want(0, 100, 0, 0);
        mixture("1 part of 81 drops to 9", x, 0, 7, 1, 9, 10);
        told.tell("18", "The strength of a pigment in it is 100 times (its drops in the one, times the parts of the one, "
            + "times all drops of the other, and its drops in the other, times the parts of the other, times all drops of "
            + "the one, together), divided by (all drops of the one, times all drops of the other, times all parts).");
        x = Paints.filled(0, 2, 0, 0, 1);
        Paints.fillPot(x, 1, 1, 0, 0, 2);
        x.want(0, 50, 0, 0);
        // Rounded down pot by pot, it would be 66 and 33, and 49 together.
        mixture("divided once", x, 0, 1, 1, 1, 0);
        x = Paints.filled(0, 81, 0, 0, 0);
        Paints.fillPot(x, 1, 0, 0, 1, 0);
        x.want(0, 50, 0, 50);
        mixture("81 drops weigh as 1", x, 0, 1, 1, 1, 0);
        x = Paints.filled(3, 81, 0, 0, 0);
        Paints.fillPot(x, 5, 81, 0, 0, 0);
        x.want(0, 100, 100, 100);
        mixture("the greatest numbers", x, 3, 5, 1, 1, 200);
    }

    private void mixtureOfSeveral() {
        told.tell("18", "Of several the one with the lowest lower pot, of these the lowest greater one, of these the "
            + "fewest parts of the lower pot, of these the fewest of the greater one.");
        ThinnedPots x = Paints.filled(0, 1, 0, 0, 0);
        Paints.fillPot(x, 1, 1, 1, 0, 0);
        Paints.fillPot(x, 2, 1, 1, 0, 0);
        Paints.fillPot(x, 3, 0, 1, 0, 0);
        x.want(0, 50, 50, 0);
        mixture("0 and 3 as well as 1 and 2", x, 0, 3, 1, 1, 0);
        x = Paints.filled(0, 1, 0, 0, 0);
        Paints.fillPot(x, 1, 0, 1, 0, 0);
        Paints.fillPot(x, 2, 2, 1, 0, 0);
        Paints.fillPot(x, 3, 2, 1, 0, 0);
        x.want(0, 66, 33, 0);
        mixture("lower pots with more parts", x, 0, 1, 2, 1, 0);
        x = Paints.filled(4, 1, 0, 0, 0);
        Paints.fillPot(x, 5, 0, 1, 0, 0);
        Paints.fillPot(x, 6, 0, 1, 0, 0);
        x.want(0, 25, 75, 0);
        mixture("the lowest greater one", x, 4, 5, 1, 3, 0);
        x = Paints.filled(2, 1, 0, 0, 0);
        Paints.fillPot(x, 6, 0, 1, 0, 0);
        x.want(0, 47, 47, 0);
        mixture("8 to 9 as well as 9 to 8", x, 2, 6, 8, 9, 5);
        x.want(0, 66, 33, 0);
        mixture("2 to 1 as well as 4 to 2, 6 to 3 and 8 to 4", x, 2, 6, 2, 1, 0);
        x = Paints.filled(2, 0, 0, 1, 0);
        Paints.fillPot(x, 3, 0, 0, 2, 0);
        mixture("all parts are as good", x, 2, 3, 1, 1, 100);
    }

    private void mixtureNumbers() {
        told.tell("18", "`what`: 0 the lower pot, 1 the greater one, 2 the parts of the lower one, 3 those of the greater "
            + "one, 4 the distance");
        ThinnedPots x = Paints.filled(6, 1, 0, 0, 0);
        Paints.fillPot(x, 1, 0, 1, 0, 0);
        x.want(0, 75, 25, 1);
        mixture("pot 6 was filled ahead of pot 1", x, 1, 6, 1, 3, 1);
        told.tell("18", "Returns the number; NO_SUCH if there is no such panel;");
        due("panel -1", x.bestMixture(-1, 0), NO_SUCH);
        due("panel 6", x.bestMixture(6, 0), NO_SUCH);
        due("the last panel, from 33 and 66", x.bestMixture(5, 4), 99);
        told.tell("18", "BAD_VALUE if what is out of range;");
        due("what -1", x.bestMixture(0, -1), BAD_VALUE);
        due("what 5", x.bestMixture(0, 5), BAD_VALUE);
        told.tell("18", "NONE if fewer than two pots have paint.");
        x = Paints.brushed(1, 0, 0, 0);
        mixture("no pot, though the brush has paint", x, NONE, NONE, NONE, NONE, NONE);
        x.fill(3, 0, 81);
        mixture("one pot", x, NONE, NONE, NONE, NONE, NONE);
        x.fill(7, 3, 1);
        mixture("two pots, one with thinner alone", x, 3, 7, 1, 9, 10);
        x.empty(3);
        mixture("one of them is emptied", x, NONE, NONE, NONE, NONE, NONE);
    }

    /** An object whose panels want what the pots 0, 1, 2 and 3 have; each digit of the code is a pot. */
    private static ThinnedPots row(int code) {
        ThinnedPots x = new ThinnedPots();
        int left = code;
        for (int kind = 0; kind < 4; kind++) {
            x.fill(kind, kind, 1);
        }
        for (int panel = 5; panel >= 0; panel--) {
            int pot = left % 4;
            x.want(panel, pot == 0 ? 100 : 0, pot == 1 ? 100 : 0, pot == 2 ? 100 : 0);
            left /= 4;
        }
        return x;
    }

    private static int[] pots(int code) {
        int[] pots = new int[6];
        int left = code;
        for (int panel = 5; panel >= 0; panel--) {
            pots[panel] = left % 4;
            left /= 4;
        }
        return pots;
    }

    private void rinses() {
        told.tell("19", "Tells how often the brush would have to be rinsed between panels, if each was painted from the "
            + "pot that nearest() tells, in some order: each time that the next one is painted from another pot than the "
            + "one before.");
        due("never", row(0).rinses(0), 0);
        due("each time", row(0b000100010001).rinses(0), 5);
        ThinnedPots x = Paints.brushed(1, 0, 0, 0);
        x.fill(0, 1, 1);
        due("what the brush has is not asked", x.rinses(0), 0);
        told.tell("19", "`first`: the panel with which it begins; the others follow in the ring: 0 behind 5");
        for (int code = 0; code < 4096; code++) {
            int[] pots = pots(code);
            x = row(code);
            for (int first = 0; first < 6; first++) {
                int many = 0;
                for (int panel = 0; panel < 6; panel++) {
                    // The ring is cut ahead of the first panel.
                    boolean cut = panel == first;
                    many += !cut && pots[panel] != pots[panel == 0 ? 5 : panel - 1] ? 1 : 0;
                }
                due("row " + code + " from " + first, x.rinses(first), many);
            }
        }
        told.tell("19", "Returns how often; NO_SUCH if there is no such panel;");
        due("panel -1", x.rinses(-1), NO_SUCH);
        due("panel 6", x.rinses(6), NO_SUCH);
        told.tell("19", "NONE if all pots are empty.");
        x = Paints.brushed(1, 0, 0, 0);
        due("the brush is no pot", x.rinses(5), NONE);
        x.fill(7, 0, 1);
        due("one pot", x.rinses(5), 0);
    }

    private void bestOrder() {
        told.tell("20", "Returns a panel of the best order: that in which the brush would have to be rinsed the least "
            + "often, if each was painted from the pot that nearest() tells; of several the one whose first panel is the "
            + "lowest, of these the one whose second one is, and so on.");
        for (int code = 0; code < 4096; code++) {
            ThinnedPots x = row(code);
            String got = Paints.drops(x.bestOrder(0), x.bestOrder(1), x.bestOrder(2), x.bestOrder(3), x.bestOrder(4),
                x.bestOrder(5));
            told.same("row " + code, got, Paints.drops(firstOfBest(pots(code))));
        }
        told.tell("20", "`place`: 0 to 5");
        for (int place = 0; place < 6; place++) {
            due("place " + place, row(0).bestOrder(place), place);
        }
        told.tell("20", "Returns the panel; BAD_VALUE if place is out of range;");
        due("place -1", row(0).bestOrder(-1), BAD_VALUE);
        due("place 6", row(0).bestOrder(6), BAD_VALUE);
        told.tell("20", "NONE if all pots are empty.");
        for (int place = 0; place < 6; place++) {
            due("the brush is no pot", Paints.brushed(1, 0, 0, 0).bestOrder(place), NONE);
            due("one pot", Paints.filled(7, 0, 0, 0, 1).bestOrder(place), place);
        }
    }

    private static int[] firstOfBest(int[] pots) {
        int[] best = null;
        int fewest = 6;
        for (int[] order : ORDERS) {
            int many = 0;
            for (int place = 1; place < 6; place++) {
                many += pots[order[place]] != pots[order[place - 1]] ? 1 : 0;
            }
            if (many < fewest) {
                fewest = many;
                best = order;
            }
        }
        return best;
    }

    /** All orders, the lowest first: numbers of six digits in rising order are orders in theirs. */
    private static List<int[]> orders() {
        List<int[]> orders = new ArrayList<>();
        for (int number = 12345; number <= 543210; number++) {
            int[] order = new int[6];
            int used = 0;
            int left = number;
            for (int place = 5; place >= 0; place--) {
                order[place] = left % 10;
                used |= 1 << order[place];
                left /= 10;
            }
            if (used == 0b111111) {
                orders.add(order);
            }
        }
        return orders;
    }
}
