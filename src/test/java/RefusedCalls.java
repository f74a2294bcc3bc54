import java.util.function.IntFunction;

/** The conventions: which error comes first, that a refused call changes nothing, and NONE behind all errors. */
final class RefusedCalls {
    private static final int NO_SUCH = -1, BAD_VALUE = -2, BAD_TEXT = -3, TOO_MANY = -4, NOT_POSSIBLE = -5, NONE = -6;
    // Far off, and such that a product with a small number wraps round to a small one.
    private static final int[] FAR_OFF = {Integer.MIN_VALUE, Integer.MIN_VALUE + 1, -1431655765, -1 << 30, -1000, 1000,
        1 << 16, 1 << 28, 1 << 29, (1 << 29) + 1, 1 << 30, (1 << 30) + 1, 1431655765, 1431655766, Integer.MAX_VALUE};
    private final Sentences told;

    RefusedCalls(Sentences told) {
        this.told = told;
    }

    void all() {
        errorCodes();
        firstError();
        farOff();
        nothingChanges();
        noneBehindErrors();
        manyCalls();
    }

    /** The pots 0 and 4 are full, 1 to 3 have paint, 8 drops are on the brush, the pad has a fault at its end. */
    private static ThinnedPots busy() {
        ThinnedPots x = Paints.filled(0, 40, 41, 0, 0);
        Paints.fillPot(x, 1, 0, 0, 9, 19);
        x.fill(2, 1, 5);
        x.fill(4, 3, 81);
        x.want(0, 10, 20, 30);
        x.dip(1, 9);
        x.paint(2);
        x.save(0);
        x.paint(3);
        x.rinse();
        x.set(0, 9);
        x.fill(3, 3, 30);
        x.dip(3, 8);
        x.want(3, 1, 2, 3);
        Checks.type(x, "5+1r2y3b4t;d5:9;p4;5!;5>6:17;r;p5;r;r;r;r;r;r;r;r;r;r;r;r;");
        return x;
    }

    private void refuse(String name, int error, Call call) {
        told.due(name, call.on(busy()), error);
        Twins.nothingChanges(told, name, RefusedCalls::busy, call);
    }

    private void errorCodes() {
        told.tell("Terms", "CONVENTIONS. A method that fails returns one of the error codes NO_SUCH (-1), BAD_VALUE (-2), "
            + "BAD_TEXT (-3), TOO_MANY (-4) and NOT_POSSIBLE (-5);");
        told.due("NO_SUCH", busy().thin(8), -1);
        told.due("BAD_VALUE", busy().set(0, 0), -2);
        told.due("BAD_TEXT", busy().run(), -3);
        told.due("TOO_MANY", busy().fill(0, 0, 1), -4);
        told.due("NOT_POSSIBLE", busy().thin(7), -5);
    }

    private void firstError() {
        told.tell("Terms", "it names its errors in the order in which they are checked, and the first one that applies is "
            + "returned.");
        refuse("fill: no pot, no kind, no drops", NO_SUCH, x -> x.fill(8, 4, 0));
        refuse("fill: no pot, no drops", NO_SUCH, x -> x.fill(8, 0, 0));
        refuse("fill: no kind, 82 drops", NO_SUCH, x -> x.fill(0, 4, 82));
        refuse("fill: no kind, a full pot", NO_SUCH, x -> x.fill(0, -1, 1));
        refuse("fill: 82 drops, a full pot", BAD_VALUE, x -> x.fill(0, 0, 82));
        refuse("pour: no pot, both the same, no drops", NO_SUCH, x -> x.pour(8, 8, 0));
        refuse("pour: no other, no drops, an empty pot", NO_SUCH, x -> x.pour(7, -1, 0));
        refuse("pour: no pot, 82 drops, a full pot", NO_SUCH, x -> x.pour(-1, 0, 82));
        refuse("pour: both the same, an empty pot", BAD_VALUE, x -> x.pour(7, 7, 1));
        refuse("pour: both the same, a full pot", BAD_VALUE, x -> x.pour(0, 0, 1));
        refuse("pour: 82 drops, not so many, a full pot", BAD_VALUE, x -> x.pour(1, 0, 82));
        refuse("pour: 0 drops, an empty pot", BAD_VALUE, x -> x.pour(7, 0, 0));
        refuse("pour: not so many, a full pot", NOT_POSSIBLE, x -> x.pour(1, 0, 81));
        refuse("dip: no pot, no drops, a full brush", NO_SUCH, x -> x.dip(8, 0));
        refuse("dip: no pot, 10 drops", NO_SUCH, x -> x.dip(-1, 10));
        refuse("dip: 10 drops, not so many, a full brush", BAD_VALUE, x -> x.dip(2, 10));
        refuse("dip: 0 drops, an empty pot", BAD_VALUE, x -> x.dip(7, 0));
        refuse("dip: not so many, a full brush", NOT_POSSIBLE, x -> x.dip(2, 9));
        refuse("paint: no panel, too few drops", NO_SUCH, x -> x.paint(6));
        refuse("want: no panel, no strength", NO_SUCH, x -> x.want(6, 101, -1, 101));
        refuse("pot: no pot, no number", NO_SUCH, x -> x.pot(8, 9));
        refuse("panel: no panel, no number", NO_SUCH, x -> x.panel(-1, 9));
        refuse("nearest: no panel, no number", NO_SUCH, x -> x.nearest(6, 2));
        refuse("bestThinning: no panel, no number, an empty pot", NO_SUCH, x -> x.bestThinning(6, 7, 2));
        refuse("bestThinning: no pot, no number", NO_SUCH, x -> x.bestThinning(0, 8, 2));
        refuse("bestThinning: no number, an empty pot", BAD_VALUE, x -> x.bestThinning(0, 7, 2));
        refuse("bestMixture: no panel, no number", NO_SUCH, x -> x.bestMixture(6, 5));
        refuse("put: a code that cannot be, too many", BAD_VALUE, x -> x.put(Checks.packed("rrrr ")));
        refuse("put: a gap, too many", BAD_VALUE, x -> x.put(0x7200727272L));
    }

    /** Each argument of each method: just below and above what it can be, and far off. */
    private void farOff() {
        off("set setting", BAD_VALUE, 0, 1, n -> x -> x.set(n, 3));
        off("STROKE", BAD_VALUE, 1, 9, n -> x -> x.set(0, n));
        off("NEAR", BAD_VALUE, 0, 60, n -> x -> x.set(1, n));
        off("fill pot", NO_SUCH, 0, 7, n -> x -> x.fill(n, 0, 1));
        off("fill kind", NO_SUCH, 0, 3, n -> x -> x.fill(1, n, 1));
        off("fill drops", BAD_VALUE, 1, 81, n -> x -> x.fill(5, 0, n));
        off("thin pot", NO_SUCH, 0, 7, n -> x -> x.thin(n));
        off("pour pot", NO_SUCH, 0, 7, n -> x -> x.pour(n, 1, 1));
        off("pour other", NO_SUCH, 0, 7, n -> x -> x.pour(1, n, 1));
        off("pour drops", BAD_VALUE, 1, 81, n -> x -> x.pour(1, 2, n));
        off("empty pot", NO_SUCH, 0, 7, n -> x -> x.empty(n));
        off("dip pot", NO_SUCH, 0, 7, n -> x -> x.dip(n, 1));
        off("dip drops", BAD_VALUE, 1, 9, n -> x -> x.dip(0, n));
        off("paint panel", NO_SUCH, 0, 5, n -> x -> x.paint(n));
        off("want panel", NO_SUCH, 0, 5, n -> x -> x.want(n, 1, 2, 3));
        off("want r", BAD_VALUE, 0, 100, n -> x -> x.want(0, n, 2, 3));
        off("want y", BAD_VALUE, 0, 100, n -> x -> x.want(0, 1, n, 3));
        off("want b", BAD_VALUE, 0, 100, n -> x -> x.want(0, 1, 2, n));
        off("pot pot", NO_SUCH, 0, 7, n -> x -> x.pot(n, 0));
        off("pot what", BAD_VALUE, 0, 8, n -> x -> x.pot(0, n));
        off("brush what", BAD_VALUE, 0, 7, n -> x -> x.brush(n));
        off("panel panel", NO_SUCH, 0, 5, n -> x -> x.panel(n, 0));
        off("panel what", BAD_VALUE, 0, 8, n -> x -> x.panel(0, n));
        off("count what", BAD_VALUE, 0, 11, n -> x -> x.count(n));
        off("nearest panel", NO_SUCH, 0, 5, n -> x -> x.nearest(n, 0));
        off("nearest what", BAD_VALUE, 0, 1, n -> x -> x.nearest(0, n));
        off("bestThinning panel", NO_SUCH, 0, 5, n -> x -> x.bestThinning(n, 0, 0));
        off("bestThinning pot", NO_SUCH, 0, 7, n -> x -> x.bestThinning(0, n, 0));
        off("bestThinning what", BAD_VALUE, 0, 1, n -> x -> x.bestThinning(0, 0, n));
        off("bestMixture panel", NO_SUCH, 0, 5, n -> x -> x.bestMixture(n, 0));
        off("bestMixture what", BAD_VALUE, 0, 4, n -> x -> x.bestMixture(0, n));
        off("rinses first", NO_SUCH, 0, 5, n -> x -> x.rinses(n));
        off("bestOrder place", BAD_VALUE, 0, 5, n -> x -> x.bestOrder(n));
        off("save slot", BAD_VALUE, 0, 1, n -> x -> x.save(n));
        off("restore slot", BAD_VALUE, 0, 1, n -> x -> x.restore(n));
    }

    private void off(String argument, int error, int least, int most, IntFunction<Call> call) {
        refuse(argument + " " + (least - 1), error, call.apply(least - 1));
        refuse(argument + " " + (most + 1), error, call.apply(most + 1));
        for (int number : FAR_OFF) {
            told.due(argument + " " + number, call.apply(number).on(busy()), error);
        }
    }

    private void nothingChanges() {
        told.tell("Terms", "A call that returns an error changes nothing.");
        refuse("fill: one drop too many", TOO_MANY, x -> x.fill(0, 2, 1));
        refuse("thin: empty", NOT_POSSIBLE, x -> x.thin(7));
        refuse("thin: too many", TOO_MANY, x -> x.thin(4));
        refuse("pour: not so many", NOT_POSSIBLE, x -> x.pour(2, 5, 6));
        refuse("pour: too many", TOO_MANY, x -> x.pour(2, 0, 1));
        refuse("dip: not so many", NOT_POSSIBLE, x -> x.dip(7, 1));
        refuse("dip: too many", TOO_MANY, x -> x.dip(2, 2));
        refuse("paint: one drop too few", NOT_POSSIBLE, x -> x.paint(0));
        refuse("run: a fault", BAD_TEXT, x -> x.run());
        refuse("bestThinning: empty", NOT_POSSIBLE, x -> x.bestThinning(0, 7, 0));
        refuse("put: no character", BAD_VALUE, x -> x.put(0));
        refuse("put: too many", TOO_MANY, x -> x.put(Checks.packed("rrrr")));
        refuse("restore: nothing saved", NOT_POSSIBLE, x -> x.restore(1));
        Call[] errors = {x -> x.undo(), x -> x.run(), x -> x.thin(0), x -> x.pour(0, 1, 1), x -> x.dip(0, 1),
            x -> x.paint(0), x -> x.restore(0), x -> x.put(-1)};
        for (Call error : errors) {
            told.holds("an error", error.on(new ThinnedPots()) < 0);
            Twins.nothingChanges(told, "an error on a new object", ThinnedPots::new, error);
        }
    }

    private void noneBehindErrors() {
        told.tell("Terms", "NONE (-6) is not an error; it is returned only if no error applies.");
        ThinnedPots x = new ThinnedPots();
        told.due("nearest", x.nearest(0, 0), NONE);
        told.due("nearest: no panel", x.nearest(6, 0), NO_SUCH);
        told.due("nearest: no number", x.nearest(0, 2), BAD_VALUE);
        told.due("bestMixture", x.bestMixture(0, 4), NONE);
        told.due("bestMixture: no panel", x.bestMixture(6, 4), NO_SUCH);
        told.due("bestMixture: no number", x.bestMixture(0, 5), BAD_VALUE);
        told.due("rinses", x.rinses(5), NONE);
        told.due("rinses: no panel", x.rinses(6), NO_SUCH);
        told.due("bestOrder", x.bestOrder(5), NONE);
        told.due("bestOrder: no place", x.bestOrder(6), BAD_VALUE);
        told.due("pot", x.pot(0, 7), NONE);
        told.due("pot: no pot", x.pot(8, 7), NO_SUCH);
        told.due("brush", x.brush(7), NONE);
        told.due("brush: no number", x.brush(8), BAD_VALUE);
        told.due("panel", x.panel(0, 6), NONE);
        told.due("panel: no panel", x.panel(6, 6), NO_SUCH);
        told.due("bestThinning has no NONE", x.bestThinning(0, 0, 0), NOT_POSSIBLE);
    }

    /** The last of the calls for which an object is promised still answers as it has to. */
    private void manyCalls() {
        ThinnedPots x = new ThinnedPots();
        for (int round = 0; round < 102; round++) {
            told.due("fill", x.fill(0, 0, 27), 27);
            told.due("thin", x.thin(0), 81);
            told.due("pour", x.pour(0, 7, 81), 81);
            told.due("empty", x.empty(7), 81);
            told.due("how often thinned so far", x.pot(0, 8), round + 1);
        }
        told.due("call 511", x.count(5), 102 * 81);
        told.due("call 512", x.undo(), 5);
    }
}
