/** Promise by promise: ordinary inputs, the edges that the document names, and wrong inputs. */
public final class PromiseTests {
    private static final int NO_SUCH = -1, BAD_VALUE = -2, BAD_TEXT = -3, TOO_MANY = -4, NOT_POSSIBLE = -5, NONE = -6;
    private static final int LEAST = Integer.MIN_VALUE, MOST = Integer.MAX_VALUE;
    private static final Checks CHECKS = new Checks();
    private static String promise = "";

    private static void due(String call, long got, long want) {
        CHECKS.due(promise + ": " + call, got, want);
    }

    private static void drops(String which, ThinnedPots x, int pot, int r, int y, int b, int t) {
        due(which + " r", x.pot(pot, 0), r);
        due(which + " y", x.pot(pot, 1), y);
        due(which + " b", x.pot(pot, 2), b);
        due(which + " t", x.pot(pot, 3), t);
        due(which + " all", x.pot(pot, 4), r + y + b + t);
    }

    private static void brushDrops(String which, ThinnedPots x, int r, int y, int b, int t) {
        due(which + " r", x.brush(0), r);
        due(which + " y", x.brush(1), y);
        due(which + " b", x.brush(2), b);
        due(which + " t", x.brush(3), t);
        due(which + " all", x.brush(4), r + y + b + t);
    }

    public static void main(String[] args) {
        constants();
        newObject();
        set();
        fill();
        thin();
        pour();
        takingDrops();
        empty();
        dip();
        paint();
        rinse();
        want();
        runText();
        runPassesOver();
        potNumbers();
        brushNumbers();
        panelNumbers();
        counts();
        nearest();
        bestThinning();
        bestMixture();
        rinses();
        bestOrder();
        put();
        wipe();
        faults();
        undo();
        undoOfEachChange();
        save();
        restore();
        errorsChangeNothing();
        CHECKS.end();
    }

    private static void constants() {
        promise = "face";
        due("NO_SUCH", ThinnedPots.NO_SUCH, -1);
        due("BAD_VALUE", ThinnedPots.BAD_VALUE, -2);
        due("BAD_TEXT", ThinnedPots.BAD_TEXT, -3);
        due("TOO_MANY", ThinnedPots.TOO_MANY, -4);
        due("NOT_POSSIBLE", ThinnedPots.NOT_POSSIBLE, -5);
        due("NONE", ThinnedPots.NONE, -6);
        due("STROKE", ThinnedPots.STROKE, 0);
        due("NEAR", ThinnedPots.NEAR, 1);
    }

    private static void newObject() {
        promise = "1 a new object";
        ThinnedPots x = new ThinnedPots();
        for (int pot = 0; pot < 8; pot++) {
            drops("pot " + pot, x, pot, 0, 0, 0, 0);
            due("thinned", x.pot(pot, 8), 0);
        }
        brushDrops("brush", x, 0, 0, 0, 0);
        for (int panel = 0; panel < 6; panel++) {
            for (int what = 0; what < 3; what++) {
                due("wanted", x.panel(panel, what), 0);
                due("painted", x.panel(panel, 3 + what), NONE);
            }
            due("distance", x.panel(panel, 6), NONE);
            due("well", x.panel(panel, 7), 0);
            due("strokes", x.panel(panel, 8), 0);
        }
        due("STROKE", x.count(0), 3);
        due("NEAR", x.count(1), 15);
        for (int what = 2; what < 12; what++) {
            due("count(" + what + ")", x.count(what), 0);
        }
        due("nothing to undo", x.undo(), NOT_POSSIBLE);
        due("slot 0", x.restore(0), NOT_POSSIBLE);
        due("slot 1", x.restore(1), NOT_POSSIBLE);
    }

    private static void set() {
        promise = "2 set";
        ThinnedPots x = new ThinnedPots();
        due("STROKE to 1", x.set(0, 1), 3);
        due("STROKE to 9", x.set(0, 9), 1);
        due("STROKE again", x.set(0, 9), 9);
        due("NEAR to 0", x.set(1, 0), 15);
        due("NEAR to 60", x.set(1, 60), 0);
        due("STROKE 0", x.set(0, 0), BAD_VALUE);
        due("STROKE 10", x.set(0, 10), BAD_VALUE);
        due("NEAR -1", x.set(1, -1), BAD_VALUE);
        due("NEAR 61", x.set(1, 61), BAD_VALUE);
        due("setting -1", x.set(-1, 3), BAD_VALUE);
        due("setting 2", x.set(2, 3), BAD_VALUE);
        due("least", x.set(LEAST, LEAST), BAD_VALUE);
        due("most", x.set(MOST, MOST), BAD_VALUE);
        due("STROKE is", x.count(0), 9);
        due("NEAR is", x.count(1), 60);
        due("changes", x.count(11), 5);
    }

    private static void fill() {
        promise = "3 fill";
        ThinnedPots x = new ThinnedPots();
        due("r", x.fill(0, 0, 1), 1);
        due("t", x.fill(0, 3, 30), 31);
        due("b", x.fill(0, 2, 50), 81);
        due("over", x.fill(0, 1, 1), TOO_MANY);
        drops("pot 0", x, 0, 1, 0, 50, 30);
        due("81 at once", x.fill(7, 1, 81), 81);
        due("again", x.fill(7, 1, 81), TOO_MANY);
        due("pot -1", x.fill(-1, 0, 0), NO_SUCH);
        due("pot 8", x.fill(8, 0, 1), NO_SUCH);
        due("kind -1", x.fill(0, -1, 0), NO_SUCH);
        due("kind 4", x.fill(0, 4, 82), NO_SUCH);
        due("0 drops", x.fill(0, 0, 0), BAD_VALUE);
        due("82 drops", x.fill(7, 0, 82), BAD_VALUE);
        due("least", x.fill(1, 0, LEAST), BAD_VALUE);
        due("most", x.fill(1, 0, MOST), BAD_VALUE);
        due("put in", x.count(2), 162);
        due("in pots", x.count(3), 162);
    }

    private static void thin() {
        promise = "4 thin";
        ThinnedPots x = Paints.filled(2, 1, 0, 0, 0);
        due("3", x.thin(2), 3);
        due("9", x.thin(2), 9);
        due("27", x.thin(2), 27);
        due("81", x.thin(2), 81);
        due("243", x.thin(2), TOO_MANY);
        drops("thinned", x, 2, 1, 0, 0, 80);
        due("how often", x.pot(2, 8), 4);
        due("put in", x.count(2), 81);
        Paints.fillPot(x, 3, 0, 28, 0, 0);
        due("84", x.thin(3), TOO_MANY);
        Paints.fillPot(x, 4, 0, 20, 0, 7);
        due("27 to 81", x.thin(4), 81);
        drops("thinner before", x, 4, 0, 20, 0, 61);
        due("empty", x.thin(0), NOT_POSSIBLE);
        due("pot -1", x.thin(-1), NO_SUCH);
        due("pot 8", x.thin(8), NO_SUCH);
        x.empty(2);
        due("how often so far", x.pot(2, 8), 4);
    }

    private static void pour() {
        promise = "5 pour";
        ThinnedPots x = Paints.filled(0, 10, 20, 30, 0);
        due("6", x.pour(0, 1, 6), 6);
        drops("from", x, 0, 9, 18, 27, 0);
        drops("to", x, 1, 1, 2, 3, 0);
        due("the others", x.pour(0, 1, 54), 60);
        drops("emptied", x, 0, 0, 0, 0, 0);
        drops("all", x, 1, 10, 20, 30, 0);
        due("put in, not poured", x.count(2), 60);
        due("from an empty one", x.pour(0, 1, 1), NOT_POSSIBLE);
        due("one more than there is", x.pour(1, 0, 61), NOT_POSSIBLE);
        due("most", x.pour(1, 0, 81), NOT_POSSIBLE);
        Paints.fillPot(x, 2, 0, 0, 0, 22);
        due("one too many", x.pour(2, 1, 22), TOO_MANY);
        due("full", x.pour(2, 1, 21), 81);
        due("not so many ahead of too many", x.pour(2, 1, 2), NOT_POSSIBLE);
        due("pot -1", x.pour(-1, 0, 0), NO_SUCH);
        due("pot 8", x.pour(8, 8, 1), NO_SUCH);
        due("other -1", x.pour(0, -1, 0), NO_SUCH);
        due("other 8", x.pour(0, 8, 1), NO_SUCH);
        due("the same", x.pour(1, 1, 1), BAD_VALUE);
        due("0 drops", x.pour(0, 1, 0), BAD_VALUE);
        due("82 drops", x.pour(0, 1, 82), BAD_VALUE);
        due("least", x.pour(0, 1, LEAST), BAD_VALUE);
        due("most", x.pour(0, 1, MOST), BAD_VALUE);
    }

    private static void takingDrops() {
        promise = "5 pour, taking drops";
        ThinnedPots x = Paints.filled(0, 1, 1, 1, 1);
        x.pour(0, 1, 3);
        drops("lowest first", x, 1, 1, 1, 1, 0);
        x = Paints.filled(0, 0, 2, 2, 1);
        x.pour(0, 1, 2);
        // 4/5, 4/5 and 2/5: none whole, so one of y and one of b.
        drops("most left over", x, 1, 0, 1, 1, 0);
        x = Paints.filled(0, 1, 0, 3, 3);
        x.pour(0, 1, 2);
        // 2/7, 6/7 and 6/7.
        drops("most, not lowest", x, 1, 0, 0, 1, 1);
        x = Paints.filled(0, 1, 2, 5, 3);
        x.pour(0, 1, 7);
        // 7/11, 1 3/11, 3 2/11 and 1 10/11: two are missing, of t and r.
        drops("two missing", x, 1, 1, 1, 3, 2);
        x = Paints.filled(0, 80, 1, 0, 0);
        x.pour(0, 1, 1);
        drops("a drop of the many", x, 1, 1, 0, 0, 0);
        x.pour(0, 1, 40);
        // 79 * 40 / 80 = 39 1/2 and 40/80: the lowest one.
        drops("halves", x, 1, 41, 0, 0, 0);
    }

    private static void empty() {
        promise = "6 empty";
        ThinnedPots x = Paints.filled(5, 1, 2, 3, 4);
        due("10", x.empty(5), 10);
        drops("emptied", x, 5, 0, 0, 0, 0);
        due("rinsed", x.count(5), 10);
        due("the brush was not rinsed", x.count(9), 0);
        due("none", x.empty(5), 0);
        due("pot -1", x.empty(-1), NO_SUCH);
        due("pot 8", x.empty(8), NO_SUCH);
        due("changes", x.count(11), 6);
    }

    private static void dip() {
        promise = "7 dip";
        ThinnedPots x = Paints.filled(0, 4, 4, 0, 4);
        Paints.fillPot(x, 1, 0, 0, 9, 0);
        due("3", x.dip(0, 3), 3);
        brushDrops("brush", x, 1, 1, 0, 1);
        drops("pot", x, 0, 3, 3, 0, 3);
        due("mixed", x.dip(1, 2), 5);
        brushDrops("mixed", x, 1, 1, 2, 1);
        due("too many", x.dip(1, 5), TOO_MANY);
        due("full", x.dip(1, 4), 9);
        due("one more", x.dip(0, 1), TOO_MANY);
        due("not so many ahead of too many", x.dip(1, 4), NOT_POSSIBLE);
        due("from an empty one", x.dip(2, 1), NOT_POSSIBLE);
        due("pot -1", x.dip(-1, 0), NO_SUCH);
        due("pot 8", x.dip(8, 1), NO_SUCH);
        due("0 drops", x.dip(0, 0), BAD_VALUE);
        due("10 drops", x.dip(0, 10), BAD_VALUE);
        due("least", x.dip(0, LEAST), BAD_VALUE);
        due("most", x.dip(0, MOST), BAD_VALUE);
        due("none rinsed", x.count(5), 0);
    }

    private static void paint() {
        promise = "8 paint";
        ThinnedPots x = Paints.filled(0, 2, 3, 1, 1);
        x.want(4, 30, 40, 10);
        x.dip(0, 7);
        due("distance", x.paint(4), 2 + 2 + 4);
        due("r", x.panel(4, 3), 28);
        due("y", x.panel(4, 4), 42);
        due("b", x.panel(4, 5), 14);
        // 6/7, 1 2/7, 3/7 and 3/7 taken: r and b have one more.
        brushDrops("3 taken", x, 1, 2, 0, 1);
        due("drops on panels", x.count(4), 3);
        due("strokes on it", x.panel(4, 8), 1);
        due("again", x.paint(4), 5 + 10 + 10);
        due("shade of the brush ahead of it", x.panel(4, 4), 50);
        due("1 left", x.brush(4), 1);
        due("too few", x.paint(4), NOT_POSSIBLE);
        x.set(0, 1);
        due("just enough", x.paint(5), 100);
        due("none left", x.brush(4), 0);
        due("no drops", x.paint(5), NOT_POSSIBLE);
        due("drops on panels", x.count(4), 7);
        due("strokes", x.count(8), 3);
        due("panel -1", x.paint(-1), NO_SUCH);
        due("panel 6", x.paint(6), NO_SUCH);
        x = new ThinnedPots();
        due("panel 6 with a clean brush", x.paint(6), NO_SUCH);
    }

    private static void rinse() {
        promise = "9 rinse";
        ThinnedPots x = Paints.filled(0, 9, 0, 0, 0);
        due("clean", x.rinse(), 0);
        due("not counted", x.count(9), 0);
        x.dip(0, 5);
        due("5", x.rinse(), 5);
        brushDrops("clean", x, 0, 0, 0, 0);
        due("rinsed", x.count(5), 5);
        due("how often", x.count(9), 1);
        due("clean again", x.rinse(), 0);
        due("how often", x.count(9), 1);
        due("each is a change", x.count(11), 5);
        x.dip(0, 1);
        due("1", x.rinse(), 1);
        due("how often", x.count(9), 2);
    }

    private static void want() {
        promise = "10 want";
        ThinnedPots x = Paints.filled(0, 6, 0, 0, 6);
        due("nothing painted", x.want(0, 0, 0, 0), 0);
        due("all", x.want(5, 100, 99, 98), 0);
        due("r", x.panel(5, 0), 100);
        due("y", x.panel(5, 1), 99);
        due("b", x.panel(5, 2), 98);
        x.dip(0, 6);
        x.paint(0);
        x.paint(1);
        due("at 15", x.want(0, 35, 0, 0), 1);
        due("at 16", x.want(0, 34, 0, 0), 0);
        due("of all three", x.want(0, 45, 5, 5), 1);
        due("both", x.want(1, 48, 0, 0), 2);
        due("panel -1", x.want(-1, 101, 0, 0), NO_SUCH);
        due("panel 6", x.want(6, 0, 0, 0), NO_SUCH);
        due("r -1", x.want(0, -1, 0, 0), BAD_VALUE);
        due("r 101", x.want(0, 101, 0, 0), BAD_VALUE);
        due("y -1", x.want(0, 0, -1, 0), BAD_VALUE);
        due("y 101", x.want(0, 0, 101, 0), BAD_VALUE);
        due("b -1", x.want(0, 0, 0, LEAST), BAD_VALUE);
        due("b 101", x.want(0, 0, 0, MOST), BAD_VALUE);
        due("unchanged", x.panel(0, 0), 45);
    }

    private static void runText() {
        promise = "11 run";
        ThinnedPots x = new ThinnedPots();
        x.set(0, 2);
        Checks.type(x, "0+2r3y4b5t;1+81t;2+9b;2!;0>3:7;d3:7;p5;r;d0:2;p0");
        due("done", x.run(), 10);
        drops("pot 1", x, 1, 0, 0, 0, 81);
        drops("pot 2", x, 2, 0, 0, 9, 18);
        drops("pot 3", x, 3, 0, 0, 0, 0);
        due("pot 0", x.pot(0, 4), 5);
        due("pad", x.count(10), 0);
        due("panel 5", x.panel(5, 5), 28);
        due("panel 0", x.panel(0, 8), 1);
        due("rinsed", x.count(5), 5);
        due("rinses", x.count(9), 1);
        due("brush", x.brush(4), 0);
        due("one change", x.count(11), 2);
        due("empty text", x.run(), BAD_TEXT);
        Checks.type(x, "0+1r;1");
        due("fault", x.run(), BAD_TEXT);
        due("pad is as it was", x.count(10), 6);
        due("nothing put in", x.count(2), 122);
        due("no change", x.count(11), 2);
        Checks.type(x, "!");
        due("now it is good", x.run(), 1);
        x.undo();
        due("undone at once", x.count(11), 2);
        due("the pad stays", x.count(10), 0);
    }

    private static void runPassesOver() {
        promise = "11 run, passing over";
        ThinnedPots x = new ThinnedPots();
        Checks.type(x, "0!;0>1:1;0>0:1;d0:1;p0;r");
        due("rinse alone", x.run(), 1);
        due("a change", x.count(11), 1);
        Checks.type(x, "0+80r2y1b1t");
        due("y and t do not fit", x.run(), 1);
        drops("pot 0", x, 0, 80, 0, 1, 0);
        Checks.type(x, "0+1r1y;0!;1+81t;0>1:1;0>0:1;p5");
        due("only pot 1", x.run(), 1);
        Checks.type(x, "p0");
        due("none done", x.run(), 0);
        due("a change all the same", x.count(11), 4);
        Checks.type(x, "d0:9;d0:1;p0;r;r");
        due("brush is full", x.run(), 4);
        Checks.type(x, "r;r;r;r;r;r;r;r;r;r;r;r;r;r;r;r;r;r;r;r;r;r;r;r;r;r;r;r;r;r");
        due("many works", x.run(), 30);
        x.want(4, 0, 0, 0);
        x.empty(1);
        Checks.type(x, "1+3t;d1:3;p4");
        due("distance 0 is done, too", x.run(), 3);
    }

    private static void potNumbers() {
        promise = "12 pot";
        ThinnedPots x = Paints.filled(6, 1, 2, 3, 1);
        drops("pot 6", x, 6, 1, 2, 3, 1);
        due("r", x.pot(6, 5), 14);
        due("y", x.pot(6, 6), 28);
        due("b", x.pot(6, 7), 42);
        due("thinned", x.pot(6, 8), 0);
        x.thin(6);
        due("thinned", x.pot(6, 8), 1);
        due("r thinned", x.pot(6, 5), 4);
        for (int what = 5; what < 8; what++) {
            due("empty", x.pot(5, what), NONE);
        }
        due("empty", x.pot(5, 8), 0);
        Paints.fillPot(x, 5, 0, 0, 0, 1);
        due("water", x.pot(5, 5), 0);
        due("pot -1", x.pot(-1, -1), NO_SUCH);
        due("pot 8", x.pot(8, 0), NO_SUCH);
        due("what -1", x.pot(0, -1), BAD_VALUE);
        due("what 9", x.pot(0, 9), BAD_VALUE);
        due("least", x.pot(0, LEAST), BAD_VALUE);
        due("most", x.pot(0, MOST), BAD_VALUE);
    }

    private static void brushNumbers() {
        promise = "13 brush";
        ThinnedPots x = Paints.filled(0, 1, 2, 3, 1);
        for (int what = 5; what < 8; what++) {
            due("none", x.brush(what), NONE);
        }
        x.dip(0, 7);
        brushDrops("brush", x, 1, 2, 3, 1);
        due("r", x.brush(5), 14);
        due("y", x.brush(6), 28);
        due("b", x.brush(7), 42);
        due("what -1", x.brush(-1), BAD_VALUE);
        due("what 8", x.brush(8), BAD_VALUE);
        due("least", x.brush(LEAST), BAD_VALUE);
        due("most", x.brush(MOST), BAD_VALUE);
    }

    private static void panelNumbers() {
        promise = "14 panel";
        ThinnedPots x = Paints.filled(0, 1, 2, 3, 1);
        x.want(3, 20, 30, 40);
        x.dip(0, 7);
        x.paint(3);
        int[] numbers = {20, 30, 40, 14, 28, 42, 10, 1, 1};
        for (int what = 0; what < 9; what++) {
            due("what " + what, x.panel(3, what), numbers[what]);
        }
        x.set(1, 9);
        due("not well", x.panel(3, 7), 0);
        x.set(1, 10);
        due("well", x.panel(3, 7), 1);
        due("not painted is not well", x.panel(2, 7), 0);
        due("panel -1", x.panel(-1, -1), NO_SUCH);
        due("panel 6", x.panel(6, 0), NO_SUCH);
        due("what -1", x.panel(0, -1), BAD_VALUE);
        due("what 9", x.panel(0, 9), BAD_VALUE);
        due("least", x.panel(0, LEAST), BAD_VALUE);
        due("most", x.panel(0, MOST), BAD_VALUE);
    }

    private static void counts() {
        promise = "15 count";
        ThinnedPots x = Paints.filled(0, 9, 9, 0, 0);
        x.thin(0);
        x.dip(0, 9);
        x.paint(0);
        x.paint(0);
        x.set(0, 1);
        x.paint(1);
        x.rinse();
        x.empty(0);
        Paints.fillPot(x, 2, 0, 0, 5, 0);
        x.want(0, 16, 16, 0);
        Checks.type(x, "0+1");
        int[] numbers = {1, 15, 59, 5, 7, 47, 2, 1, 3, 1, 3, 6};
        for (int what = 0; what < 12; what++) {
            due("what " + what, x.count(what), numbers[what]);
        }
        due("what -1", x.count(-1), BAD_VALUE);
        due("what 12", x.count(12), BAD_VALUE);
        due("least", x.count(LEAST), BAD_VALUE);
        due("most", x.count(MOST), BAD_VALUE);
        due("no change", x.count(11), 6);
    }

    private static void nearest() {
        promise = "16 nearest";
        ThinnedPots x = new ThinnedPots();
        due("all empty", x.nearest(0, 0), NONE);
        due("all empty", x.nearest(0, 1), NONE);
        due("panel -1", x.nearest(-1, 2), NO_SUCH);
        due("panel 6", x.nearest(6, 0), NO_SUCH);
        due("what -1", x.nearest(0, -1), BAD_VALUE);
        due("what 2", x.nearest(0, 2), BAD_VALUE);
        Paints.fillPot(x, 3, 1, 0, 0, 0);
        x.want(2, 0, 90, 10);
        due("the only one", x.nearest(2, 0), 3);
        due("its distance", x.nearest(2, 1), 200);
        Paints.fillPot(x, 5, 0, 1, 0, 0);
        Paints.fillPot(x, 7, 0, 2, 0, 0);
        due("lowest of two", x.nearest(2, 0), 5);
        due("its distance", x.nearest(2, 1), 20);
        Paints.fillPot(x, 7, 0, 7, 1, 0);
        Paints.fillPot(x, 0, 0, 0, 1, 0);
        due("nearer", x.nearest(2, 0), 7);
        due("its distance", x.nearest(2, 1), 0);
    }

    private static void bestThinning() {
        promise = "17 bestThinning";
        ThinnedPots x = Paints.filled(1, 1, 0, 0, 0);
        int[] wanted = {100, 34, 10, 4, 0};
        int[] distances = {0, 1, 1, 1, 1};
        for (int times = 0; times < 5; times++) {
            x.want(0, wanted[times], 0, 0);
            due("how often", x.bestThinning(0, 1, 0), times);
            due("distance", x.bestThinning(0, 1, 1), distances[times]);
        }
        Paints.fillPot(x, 2, 4, 5, 0, 0);
        x.want(1, 0, 0, 0);
        due("27 and 81", x.bestThinning(1, 2, 0), 2);
        due("10 drops of 81", x.bestThinning(1, 2, 1), 4 + 6);
        Paints.fillPot(x, 3, 28, 0, 0, 0);
        due("not once", x.bestThinning(1, 3, 0), 0);
        due("as it is", x.bestThinning(1, 3, 1), 100);
        Paints.fillPot(x, 4, 0, 0, 0, 3);
        due("least number of several", x.bestThinning(1, 4, 0), 0);
        due("nothing is thinned", x.pot(1, 4), 1);
        due("panel -1", x.bestThinning(-1, 0, 2), NO_SUCH);
        due("panel 6", x.bestThinning(6, 0, 0), NO_SUCH);
        due("pot -1", x.bestThinning(0, -1, 2), NO_SUCH);
        due("pot 8", x.bestThinning(0, 8, 0), NO_SUCH);
        due("what -1", x.bestThinning(0, 0, -1), BAD_VALUE);
        due("what 2 of an empty pot", x.bestThinning(0, 0, 2), BAD_VALUE);
        due("empty", x.bestThinning(0, 0, 0), NOT_POSSIBLE);
        due("empty", x.bestThinning(0, 0, 1), NOT_POSSIBLE);
    }

    private static void mixture(ThinnedPots x, int panel, int... numbers) {
        for (int what = 0; what < 5; what++) {
            due("what " + what, x.bestMixture(panel, what), numbers[what]);
        }
    }

    private static void bestMixture() {
        promise = "18 bestMixture";
        ThinnedPots x = new ThinnedPots();
        due("no paint", x.bestMixture(0, 0), NONE);
        Paints.fillPot(x, 2, 3, 0, 0, 0);
        due("one pot", x.bestMixture(0, 4), NONE);
        due("panel -1", x.bestMixture(-1, 5), NO_SUCH);
        due("panel 6", x.bestMixture(6, 0), NO_SUCH);
        due("what -1", x.bestMixture(0, -1), BAD_VALUE);
        due("what 5", x.bestMixture(0, 5), BAD_VALUE);
        Paints.fillPot(x, 4, 0, 1, 0, 0);
        x.want(0, 50, 50, 0);
        mixture(x, 0, 2, 4, 1, 1, 0);
        x.want(0, 90, 10, 0);
        mixture(x, 0, 2, 4, 9, 1, 0);
        x.want(0, 10, 90, 0);
        mixture(x, 0, 2, 4, 1, 9, 0);
        x.want(0, 53, 46, 0);
        mixture(x, 0, 2, 4, 7, 6, 0);
        x.want(0, 9, 91, 0);
        mixture(x, 0, 2, 4, 1, 9, 2);
        Paints.fillPot(x, 1, 0, 0, 7, 7);
        Paints.fillPot(x, 6, 2, 2, 0, 0);
        x.want(0, 50, 50, 0);
        mixture(x, 0, 2, 4, 1, 1, 0);
        x.want(0, 25, 25, 25);
        mixture(x, 0, 1, 6, 1, 1, 0);
        Paints.fillPot(x, 0, 0, 5, 0, 0);
        x.want(0, 0, 50, 25);
        mixture(x, 0, 0, 1, 1, 1, 0);
    }

    private static ThinnedPots ringed(int... pots) {
        ThinnedPots x = new ThinnedPots();
        Paints.fillPot(x, 1, 1, 0, 0, 0);
        Paints.fillPot(x, 3, 0, 1, 0, 0);
        Paints.fillPot(x, 5, 0, 0, 1, 0);
        for (int panel = 0; panel < 6; panel++) {
            int pot = pots[panel];
            x.want(panel, pot == 1 ? 100 : 0, pot == 3 ? 100 : 0, pot == 5 ? 100 : 0);
        }
        return x;
    }

    private static void rinses() {
        promise = "19 rinses";
        ThinnedPots x = ringed(1, 1, 3, 3, 5, 1);
        int[] often = {3, 3, 2, 3, 2, 2};
        for (int first = 0; first < 6; first++) {
            due("from " + first, x.rinses(first), often[first]);
        }
        due("panel -1", x.rinses(-1), NO_SUCH);
        due("panel 6", x.rinses(6), NO_SUCH);
        due("all empty", new ThinnedPots().rinses(5), NONE);
        due("all empty", new ThinnedPots().rinses(6), NO_SUCH);
        due("one pot", ringed(5, 5, 5, 5, 5, 5).rinses(2), 0);
        due("each time", ringed(5, 3, 5, 3, 5, 3).rinses(2), 5);
    }

    private static void order(ThinnedPots x, int... panels) {
        for (int place = 0; place < 6; place++) {
            due("place " + place, x.bestOrder(place), panels[place]);
        }
    }

    private static void bestOrder() {
        promise = "20 bestOrder";
        order(ringed(1, 1, 3, 3, 5, 1), 0, 1, 5, 2, 3, 4);
        order(ringed(5, 3, 1, 5, 3, 1), 0, 3, 1, 4, 2, 5);
        order(ringed(3, 3, 3, 3, 3, 3), 0, 1, 2, 3, 4, 5);
        order(ringed(3, 1, 5, 5, 1, 3), 0, 5, 1, 4, 2, 3);
        ThinnedPots x = new ThinnedPots();
        due("all empty", x.bestOrder(0), NONE);
        due("place -1", x.bestOrder(-1), BAD_VALUE);
        due("place 6", x.bestOrder(6), BAD_VALUE);
    }

    private static void put() {
        promise = "21 put";
        ThinnedPots x = new ThinnedPots();
        due("one", x.put('!'), 1);
        due("none", x.put(0), BAD_VALUE);
        due("eight", x.put(Checks.packed("~~~~~~~~")), 9);
        due("32", x.put(32), BAD_VALUE);
        due("127", x.put(127), BAD_VALUE);
        due("33 first", x.put(Checks.packed("!a")), 11);
        due("32 first", x.put(Checks.packed(" a")), BAD_VALUE);
        due("255", x.put(-1L), BAD_VALUE);
        due("least", x.put(Long.MIN_VALUE), BAD_VALUE);
        due("a 0 within", x.put(0x610061L), BAD_VALUE);
        due("a 0 last", x.put(0x6100L), BAD_VALUE);
        due("a bit far above", x.put(0x0100000000000061L), BAD_VALUE);
        due("128 on top", x.put(0x8061616161616161L), BAD_VALUE);
        for (int length = 19; length < 60; length += 8) {
            due("to " + length, x.put(Checks.packed("aaaaaaaa")), length);
        }
        due("61", x.put(Checks.packed("aa")), TOO_MANY);
        due("60", x.put('a'), 60);
        due("61 again", x.put('a'), TOO_MANY);
        due("bad ahead of too many", x.put(' '), BAD_VALUE);
        due("length", x.count(10), 60);
        due("no change", x.count(11), 0);
        x.wipe();
        x.put(Checks.packed("0+1"));
        x.put(Checks.packed("2r"));
        x.run();
        due("in their order", x.pot(0, 0), 12);
    }

    private static void wipe() {
        promise = "22 wipe";
        ThinnedPots x = new ThinnedPots();
        due("empty", x.wipe(), 0);
        Checks.type(x, "0+1r;2+3y;d0:1");
        due("14", x.wipe(), 14);
        due("length", x.count(10), 0);
        due("empty", x.wipe(), 0);
        due("no change", x.count(11), 0);
        Checks.type(x, "1");
        due("nothing of the old one", x.fault(), 1);
    }

    private static void fault(String text, int fault) {
        ThinnedPots x = new ThinnedPots();
        Checks.type(x, text);
        due(text, x.fault(), fault);
        due("run of " + text, x.run() == BAD_TEXT ? 1 : 0, fault == NONE ? 0 : 1);
    }

    private static void faults() {
        promise = "23 fault";
        String[] good = {"r", "p0", "p5", "d0:1", "d7:9", "0!", "7!", "0>0:1", "0>7:81", "0>1:10", "0>1:9", "0>1:80",
            "0+1r", "0+81t", "7+1r2y3b4t", "0+1r9t", "0+10y80b", "r;r", "0+1t;r", "0+1r;1!", "p0;p0;d1:1;0>1:1;r"};
        for (String text : good) {
            fault(text, NONE);
        }
        fault("", 0);
        String[] early = {"0", "d", "p", "0+", "0+1", "0+81", "0>", "0>1", "0>1:", "d1", "d1:", "r;", "0+1r;", "0+1r1",
            "0+1r2y3b4"};
        for (String text : early) {
            fault(text, text.length());
        }
        fault("8", 0);
        fault("9!", 0);
        fault(";r", 0);
        fault("x", 0);
        fault("R", 0);
        fault("!", 0);
        fault("b0:1", 0);
        fault("r!", 1);
        fault("rr", 1);
        fault("p6", 1);
        fault("p00", 2);
        fault("d8:1", 1);
        fault("d0;1", 2);
        fault("d0:0", 3);
        fault("d0:10", 4);
        fault("0!!", 2);
        fault("00", 1);
        fault("0d", 1);
        fault("0:", 1);
        fault("0>8:1", 2);
        fault("0>11", 3);
        fault("0>1:0", 4);
        fault("0>1:82", 5);
        fault("0>1:90", 5);
        fault("0>1:100", 6);
        fault("0>1:811", 6);
        fault("0>1:1r", 5);
        fault("0+r", 2);
        fault("0+0", 2);
        fault("0+;", 2);
        fault("0+1;", 3);
        fault("0+82", 3);
        fault("0+89r", 3);
        fault("0+91r", 3);
        fault("0+100", 4);
        fault("0+1d", 3);
        fault("0+1r1r", 5);
        fault("0+1y1r", 5);
        fault("0+1t1", 4);
        fault("0+1t1t", 4);
        fault("0+1ry", 4);
        fault("0+1r0y", 4);
        fault("0+1b82t", 5);
        fault("0+1r;;", 5);
        fault("r;x", 2);
        fault("r;p0;0+1t9", 9);
    }

    private static void undo() {
        promise = "24 undo";
        ThinnedPots x = new ThinnedPots();
        for (int change = 1; change <= 8; change++) {
            x.fill(0, 1, 1);
            due("kept", x.count(11), Math.min(change, 6));
        }
        for (int left = 5; left >= 0; left--) {
            due("undo", x.undo(), left);
            due("drops", x.pot(0, 1), left + 2);
            due("put in", x.count(2), left + 2);
        }
        due("none", x.undo(), NOT_POSSIBLE);
        due("oldest was dropped", x.pot(0, 1), 2);
        x.fill(0, 1, 9);
        x.fill(0, 1, 100);
        Checks.type(x, "r;r");
        x.save(0);
        due("an error is no change", x.undo(), 0);
        due("2 again", x.pot(0, 1), 2);
        due("the pad stays", x.count(10), 3);
        due("the slot stays", x.restore(0), 11);
        due("restore undone", x.undo(), 0);
        due("2 again", x.count(3), 2);
    }

    /** Each change is recorded, and undone with all that it did. */
    private static void undoOfEachChange() {
        promise = "24 undo of each change";
        for (int change = 0; change < 11; change++) {
            ThinnedPots x = Paints.filled(0, 9, 9, 0, 0);
            x.dip(0, 8);
            x.paint(1);
            x.save(1);
            String before = Paints.answers(x);
            int kept = x.count(11);
            doChange(x, change);
            due("recorded " + change, x.count(11), kept + 1);
            if (change < 10) {
                CHECKS.holds(promise + ": differs " + change, !before.equals(Paints.answers(x)));
            }
            due("undone " + change, x.undo(), kept);
            CHECKS.holds(promise + ": as before " + change, before.equals(Paints.answers(x)));
        }
    }

    private static int doChange(ThinnedPots x, int change) {
        switch (change) {
            case 0: return x.set(0, 4);
            case 1: return x.fill(3, 3, 3);
            case 2: return x.thin(0);
            case 3: return x.pour(0, 1, 3);
            case 4: return x.empty(0);
            case 5: return x.dip(0, 2);
            case 6: return x.paint(1);
            case 7: return x.rinse();
            case 8: return x.want(1, 44, 55, 0);
            case 9: Checks.type(x, "d0:1;p2;0!;r"); return x.run();
            default: return x.restore(1);
        }
    }

    private static void save() {
        promise = "25 save";
        ThinnedPots x = Paints.filled(0, 1, 2, 3, 4);
        Paints.fillPot(x, 7, 5, 0, 0, 0);
        x.dip(7, 1);
        due("slot 0", x.save(0), 14);
        x.empty(7);
        due("slot 1", x.save(1), 10);
        due("slot 0 is kept", x.restore(0), 14);
        due("slot 1 is kept", x.restore(1), 10);
        x.empty(0);
        due("overwrites", x.save(0), 0);
        due("overwritten", x.restore(0), 0);
        due("slot -1", x.save(-1), BAD_VALUE);
        due("slot 2", x.save(2), BAD_VALUE);
        due("least", x.save(LEAST), BAD_VALUE);
        due("most", x.save(MOST), BAD_VALUE);
        x = new ThinnedPots();
        x.save(1);
        due("no change", x.count(11), 0);
    }

    private static void restore() {
        promise = "26 restore";
        ThinnedPots x = Paints.filled(0, 9, 9, 0, 0);
        due("nothing saved", x.restore(0), NOT_POSSIBLE);
        x.set(1, 40);
        x.thin(0);
        x.dip(0, 9);
        x.paint(2);
        x.want(2, 20, 20, 0);
        Checks.type(x, "r;p0");
        x.save(0);
        String saved = Paints.answers(x);
        x.rinse();
        x.set(1, 2);
        x.want(2, 90, 90, 90);
        x.paint(3);
        x.run();
        Checks.type(x, "r;r");
        due("drops", x.restore(0), 45);
        CHECKS.holds(promise + ": as saved", saved.equals(Paints.answers(x)));
        due("the pad stays", x.count(10), 3);
        due("a change", x.count(11), 6);
        x.empty(0);
        due("keeps it", x.restore(0), 45);
        due("undone", x.undo(), 5);
        due("emptied", x.count(3), 0);
        due("slot 1", x.restore(1), NOT_POSSIBLE);
        due("slot -1", x.restore(-1), BAD_VALUE);
        due("slot 2", x.restore(2), BAD_VALUE);
        due("least", x.restore(LEAST), BAD_VALUE);
        due("most", x.restore(MOST), BAD_VALUE);
        due("errors are no changes", x.count(11), 5);
    }

    private static void errorsChangeNothing() {
        promise = "conventions";
        ThinnedPots x = Paints.filled(0, 40, 40, 0, 0);
        Paints.fillPot(x, 1, 0, 0, 9, 0);
        x.dip(1, 2);
        x.save(0);
        String before = Paints.answers(x);
        int kept = x.count(11);
        due("set", x.set(0, 0), BAD_VALUE);
        due("fill", x.fill(0, 0, 2), TOO_MANY);
        due("thin", x.thin(0), TOO_MANY);
        due("pour", x.pour(1, 0, 2), TOO_MANY);
        due("empty", x.empty(9), NO_SUCH);
        due("dip", x.dip(0, 8), TOO_MANY);
        due("paint", x.paint(0), NOT_POSSIBLE);
        due("want", x.want(0, 1, 2, 101), BAD_VALUE);
        due("run", x.run(), BAD_TEXT);
        due("restore", x.restore(1), NOT_POSSIBLE);
        CHECKS.holds(promise + ": as before", before.equals(Paints.answers(x)));
        due("history", x.count(11), kept);
        x.undo();
        due("the latest change is undone", x.brush(4), 0);
    }
}
