import java.util.Arrays;

/** Objects with paint in them, and what can be read of an object. */
final class Paints {
    private Paints() {
    }

    static ThinnedPots filled(int pot, int r, int y, int b, int t) {
        ThinnedPots x = new ThinnedPots();
        fillPot(x, pot, r, y, b, t);
        return x;
    }

    static void fillPot(ThinnedPots x, int pot, int r, int y, int b, int t) {
        int[] drops = {r, y, b, t};
        for (int kind = 0; kind < 4; kind++) {
            if (drops[kind] > 0) {
                x.fill(pot, kind, drops[kind]);
            }
        }
    }

    /** An object whose brush has these drops, taken out of pot 7. */
    static ThinnedPots brushed(int r, int y, int b, int t) {
        ThinnedPots x = filled(7, r, y, b, t);
        int all = r + y + b + t;
        if (all > 0) {
            x.dip(7, all);
        }
        return x;
    }

    static String held(ThinnedPots x, int pot) {
        return Arrays.toString(new int[] {x.pot(pot, 0), x.pot(pot, 1), x.pot(pot, 2), x.pot(pot, 3)});
    }

    static String onBrush(ThinnedPots x) {
        return Arrays.toString(new int[] {x.brush(0), x.brush(1), x.brush(2), x.brush(3)});
    }

    static String drops(int... drops) {
        return Arrays.toString(drops);
    }

    /** All that can be read of an object, but for the pad and the history. */
    static String answers(ThinnedPots x) {
        int[] all = new int[8 * 9 + 8 + 6 * 9 + 10];
        int next = 0;
        for (int pot = 0; pot < 8; pot++) {
            for (int what = 0; what < 9; what++) {
                all[next++] = x.pot(pot, what);
            }
        }
        for (int what = 0; what < 8; what++) {
            all[next++] = x.brush(what);
        }
        for (int panel = 0; panel < 6; panel++) {
            for (int what = 0; what < 9; what++) {
                all[next++] = x.panel(panel, what);
            }
        }
        for (int what = 0; what < 10; what++) {
            all[next++] = x.count(what);
        }
        return Arrays.toString(all);
    }
}
