/** The sentences of the terms: numbers, settings, paint, the taking of drops, panels. */
final class TermEdges {
    private static final int BAD_VALUE = -2, TOO_MANY = -4, NOT_POSSIBLE = -5, NONE = -6;
    private final Sentences told;

    TermEdges(Sentences told) {
        this.told = told;
    }

    void all() {
        constants();
        numberedFromZero();
        roundedDown();
        settings();
        strengths();
        distances();
        takenByDivision();
        takenByRemainder();
        potsAndBrush();
        panels();
        well();
    }

    private void due(String call, long got, long want) {
        told.due(call, got, want);
    }

    private void constants() {
        told.tell("Texts", "The constants: `NO_SUCH = -1, BAD_VALUE = -2, BAD_TEXT = -3, TOO_MANY = -4, "
            + "NOT_POSSIBLE = -5, NONE = -6`: Error codes, and NONE: there is none.");
        due("NO_SUCH", ThinnedPots.NO_SUCH, -1);
        due("BAD_VALUE", ThinnedPots.BAD_VALUE, -2);
        due("BAD_TEXT", ThinnedPots.BAD_TEXT, -3);
        due("TOO_MANY", ThinnedPots.TOO_MANY, -4);
        due("NOT_POSSIBLE", ThinnedPots.NOT_POSSIBLE, -5);
        due("NONE", ThinnedPots.NONE, -6);
        told.tell("Texts", "`STROKE = 0, NEAR = 1`: Settings.");
        ThinnedPots x = new ThinnedPots();
        x.set(ThinnedPots.STROKE, 4);
        x.set(ThinnedPots.NEAR, 44);
        due("STROKE", x.count(0), 4);
        due("NEAR", x.count(1), 44);
        due("STROKE", ThinnedPots.STROKE, 0);
        due("NEAR", ThinnedPots.NEAR, 1);
    }

    private void numberedFromZero() {
        told.tell("Terms", "Everything is numbered from 0.");
        ThinnedPots x = new ThinnedPots();
        due("the first pot and kind", x.fill(0, 0, 9), 9);
        due("the first drops", x.pot(0, 0), 9);
        due("the first panel", x.want(0, 1, 2, 3), 0);
        due("the first strength", x.panel(0, 0), 1);
        due("the first setting", x.set(0, 3), 3);
        due("the first number", x.count(0), 3);
        due("the first slot", x.save(0), 9);
        due("the first panel in the ring", x.rinses(0), 0);
        due("the first place", x.bestOrder(0), 0);
        x.put('x');
        due("the first character", x.fault(), 0);
    }

    private void roundedDown() {
        told.tell("Terms", "Divisions are rounded down.");
        due("100 / 81", Paints.filled(0, 1, 0, 0, 80).pot(0, 5), 1);
        due("200 / 3, not 67", Paints.filled(0, 2, 0, 0, 1).pot(0, 5), 66);
        due("8000 / 81, not 99", Paints.filled(0, 0, 80, 0, 1).pot(0, 6), 98);
        due("700 / 8", Paints.filled(0, 0, 0, 7, 1).pot(0, 7), 87);
    }

    private void settings() {
        told.tell("Settings", "(In parentheses: range; first value.) STROKE (1 to 9; 3): drops. NEAR (0 to 60; 15).");
        ThinnedPots x = new ThinnedPots();
        due("STROKE at first", x.count(0), 3);
        due("NEAR at first", x.count(1), 15);
        for (int value = -2; value <= 62; value++) {
            boolean stroke = value >= 1 && value <= 9;
            boolean near = value >= 0 && value <= 60;
            due("STROKE " + value, x.set(0, value) == BAD_VALUE ? 0 : 1, stroke ? 1 : 0);
            due("NEAR " + value, x.set(1, value) == BAD_VALUE ? 0 : 1, near ? 1 : 0);
        }
        due("the last good STROKE", x.count(0), 9);
        due("the last good NEAR", x.count(1), 60);
        for (int stroke = 1; stroke <= 9; stroke++) {
            x = Paints.brushed(9, 0, 0, 0);
            x.set(0, stroke);
            x.paint(0);
            due("a stroke has drops", x.brush(4), 9 - stroke);
        }
    }

    private void strengths() {
        told.tell("Paint", "Paint is a number of drops of each of the kinds 0 to 3: the pigments 0, 1 and 2 "
            + "(called r, y and b), and thinner (3, called t). It is stirred at all times.");
        ThinnedPots x = Paints.filled(0, 1, 2, 3, 4);
        told.same("drops of the kinds", Paints.held(x, 0), Paints.drops(1, 2, 3, 4));
        due("kind 4", x.fill(0, 4, 1), -1);
        told.tell("Paint", "The strength of a pigment in paint is 100 times its drops, divided by all drops; "
            + "the shade of paint is the three strengths.");
        for (int all = 1; all <= 81; all++) {
            for (int drops = 0; drops <= all; drops++) {
                int pigment = (all + drops) % 3;
                x = Paints.filled(1, pigment == 0 ? drops : 0, pigment == 1 ? drops : 0, pigment == 2 ? drops : 0, all - drops);
                due(drops + " of " + all, x.pot(1, 5 + pigment), 100 * drops / all);
                due("the next pigment", x.pot(1, 5 + (pigment + 1) % 3), 0);
            }
        }
        x = Paints.filled(2, 27, 27, 27, 0);
        for (int what = 5; what < 8; what++) {
            due("a third each", x.pot(2, what), 33);
        }
    }

    private void distances() {
        told.tell("Paint", "The distance of two shades is how far their strengths of each pigment are from each "
            + "other, of all three together.");
        ThinnedPots x = Paints.brushed(1, 1, 2, 0);
        int[][] cases = {{25, 25, 50, 0}, {24, 26, 50, 2}, {26, 24, 50, 2}, {25, 25, 51, 1}, {25, 25, 49, 1},
            {100, 25, 50, 75}, {25, 100, 50, 75}, {25, 25, 100, 50}, {0, 0, 0, 100}, {100, 100, 100, 200}};
        x.set(0, 1);
        x.paint(0);
        for (int[] one : cases) {
            x.want(0, one[0], one[1], one[2]);
            due("distance", x.panel(0, 6), one[3]);
        }
        x = Paints.brushed(0, 0, 0, 9);
        x.want(0, 100, 100, 100);
        due("the greatest distance", x.paint(0), 300);
        x.want(0, 0, 0, 0);
        due("the least distance", x.panel(0, 6), 0);
    }

    private void takenByDivision() {
        told.tell("Paint", "To take some drops out of paint that has n drops in all means: of each kind its drops "
            + "times those that are taken, divided by n;");
        ThinnedPots x = Paints.filled(0, 8, 16, 24, 32);
        x.pour(0, 1, 10);
        told.same("no division leaves anything", Paints.held(x, 1), Paints.drops(1, 2, 3, 4));
        told.same("the rest", Paints.held(x, 0), Paints.drops(7, 14, 21, 28));
        x.pour(0, 1, 70);
        told.same("all that there is", Paints.held(x, 1), Paints.drops(8, 16, 24, 32));
        told.same("nothing is left", Paints.held(x, 0), Paints.drops(0, 0, 0, 0));
        for (int kind = 0; kind < 4; kind++) {
            x = new ThinnedPots();
            x.fill(0, kind, 81);
            x.pour(0, 1, 80);
            due("80 of one kind", x.pot(1, kind), 80);
            due("1 is left", x.pot(0, kind), 1);
            x.pour(0, 1, 1);
            due("the last one", x.pot(1, kind), 81);
        }
    }

    private void takenByRemainder() {
        told.tell("Paint", "as long as these are fewer than are to be taken, one drop more of a kind each: first of "
            + "the kind whose division leaves the most over, of several the lowest kind, then of the next one by this "
            + "order, and so on (each kind once at most).");
        for (int code = 1; code < 5 * 5 * 5 * 5; code++) {
            int[] drops = {code / 125, code / 25 % 5, code / 5 % 5, code % 5};
            takenByEachWay(drops);
        }
        takenByEachWay(new int[] {20, 20, 20, 21});
        takenByEachWay(new int[] {1, 78, 1, 1});
        takenByEachWay(new int[] {40, 1, 40, 0});
        takenByEachWay(new int[] {7, 11, 13, 50});
    }

    private void takenByEachWay(int[] drops) {
        int all = drops[0] + drops[1] + drops[2] + drops[3];
        for (int many = 1; many <= all; many++) {
            int[] taken = taken(drops, many);
            int[] left = new int[4];
            for (int kind = 0; kind < 4; kind++) {
                left[kind] = drops[kind] - taken[kind];
            }
            String call = many + " of " + Paints.drops(drops);
            ThinnedPots x = Paints.filled(7, drops[0], drops[1], drops[2], drops[3]);
            x.pour(7, 0, many);
            told.same("pour " + call, Paints.held(x, 0), Paints.drops(taken));
            told.same("pour leaves " + call, Paints.held(x, 7), Paints.drops(left));
            if (many <= 9) {
                x = Paints.filled(7, drops[0], drops[1], drops[2], drops[3]);
                x.dip(7, many);
                told.same("dip " + call, Paints.onBrush(x), Paints.drops(taken));
                told.same("dip leaves " + call, Paints.held(x, 7), Paints.drops(left));
            }
            if (all <= 9) {
                x = Paints.brushed(drops[0], drops[1], drops[2], drops[3]);
                x.set(0, many);
                x.paint(0);
                told.same("paint leaves " + call, Paints.onBrush(x), Paints.drops(left));
            }
        }
    }

    /** A kind gives one more if fewer kinds come ahead of it by the order than drops are missing. */
    private static int[] taken(int[] drops, int many) {
        int all = drops[0] + drops[1] + drops[2] + drops[3];
        int missing = many;
        for (int kind = 0; kind < 4; kind++) {
            missing -= drops[kind] * many / all;
        }
        int[] taken = new int[4];
        for (int kind = 0; kind < 4; kind++) {
            int ahead = 0;
            for (int other = 0; other < 4; other++) {
                int more = drops[other] * many % all - drops[kind] * many % all;
                ahead += more > 0 || more == 0 && other < kind ? 1 : 0;
            }
            taken[kind] = drops[kind] * many / all + (ahead < missing ? 1 : 0);
        }
        return taken;
    }

    private void potsAndBrush() {
        told.tell("Paint", "There are 8 pots, 0 to 7, each with paint of at most 81 drops (empty at first).");
        ThinnedPots x = new ThinnedPots();
        for (int pot = 0; pot < 8; pot++) {
            due("empty at first", x.pot(pot, 4), 0);
            due("81 drops", x.fill(pot, pot % 4, 81), 81);
            due("82 drops", x.fill(pot, pot % 4, 1), TOO_MANY);
        }
        due("all pots are full", x.count(3), 8 * 81);
        due("pot 8", x.fill(8, 0, 1), -1);
        due("pot -1", x.fill(-1, 0, 1), -1);
        told.tell("Paint", "The brush has paint of at most 9 drops (none at first).");
        due("none at first", x.brush(4), 0);
        for (int drops = 1; drops <= 9; drops++) {
            due("one more", x.dip(drops % 8, 1), drops);
        }
        due("10 drops", x.dip(2, 1), TOO_MANY);
    }

    private void panels() {
        told.tell("Panels", "There are 6 panels, 0 to 5, in a row, each with a wanted shade, three strengths of 0 to "
            + "100 each (all 0 at first), and the shade with which it was painted last, or none.");
        ThinnedPots x = Paints.brushed(4, 0, 0, 0);
        x.set(0, 1);
        for (int panel = 0; panel < 6; panel++) {
            for (int what = 0; what < 3; what++) {
                due("wanted at first", x.panel(panel, what), 0);
                due("no shade at first", x.panel(panel, 3 + what), NONE);
            }
        }
        due("panel 6", x.panel(6, 0), -1);
        due("panel -1", x.panel(-1, 0), -1);
        for (int panel = 0; panel < 6; panel++) {
            due("0 to 100", x.want(panel, panel == 0 ? 0 : 100, 20 * panel, 100 - 20 * panel), 0);
        }
        for (int panel = 0; panel < 6; panel++) {
            due("r", x.panel(panel, 0), panel == 0 ? 0 : 100);
            due("y", x.panel(panel, 1), 20 * panel);
            due("b", x.panel(panel, 2), 100 - 20 * panel);
        }
        x.paint(5);
        due("painted", x.panel(5, 3), 100);
        x.fill(6, 1, 3);
        x.dip(6, 3);
        x.paint(5);
        due("painted last", x.panel(5, 3), 50);
        due("the others are not", x.panel(4, 3), NONE);
    }

    private void well() {
        told.tell("Panels", "A panel is well, if it is painted, and the distance of its shade from the wanted one is "
            + "at most NEAR.");
        ThinnedPots x = new ThinnedPots();
        x.set(1, 60);
        due("wants what nothing is, but is not painted", x.panel(0, 7), 0);
        due("no panel is well", x.count(7), 0);
        x = Paints.brushed(0, 1, 0, 1);
        x.set(0, 2);
        x.paint(0);
        for (int near = 0; near <= 60; near++) {
            x.set(1, near);
            x.want(0, 0, near <= 50 ? 50 - near : 0, near <= 50 ? 0 : near - 50);
            due("at a distance of NEAR " + near, x.panel(0, 7), 1);
            x.want(0, 1, near <= 50 ? 50 - near : 0, near <= 50 ? 0 : near - 50);
            due("one farther than NEAR " + near, x.panel(0, 7), 0);
        }
        due("paint is gone", x.paint(0), NOT_POSSIBLE);
        due("no panel is well", x.count(7), 0);
    }
}
