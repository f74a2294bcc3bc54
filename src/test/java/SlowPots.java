import java.util.ArrayList;
import java.util.List;
import java.util.regex.Matcher;
import java.util.regex.Pattern;

/**
 * The document once more, by other means: states that are copied whole, a regular expression
 * for the texts, and every order of the panels tried. RandomTests compares the class with it.
 */
final class SlowPots {
    private static final int NO_SUCH = -1, BAD_VALUE = -2, BAD_TEXT = -3, TOO_MANY = -4, NOT_POSSIBLE = -5, NONE = -6;
    private static final String NUMBER = "(?:8[01]|[1-7][0-9]|[1-9])";
    private static final String FILL = "[0-7]\\+(?:Nr(?:Ny)?(?:Nb)?(?:Nt)?|Ny(?:Nb)?(?:Nt)?|Nb(?:Nt)?|Nt)"
        .replace("N", NUMBER);
    private static final String WORK = "(?:" + FILL + "|[0-7]!|[0-7]>[0-7]:" + NUMBER + "|d[0-7]:[1-9]|p[0-5]|r)";
    private static final Pattern TEXT = Pattern.compile(WORK + "(?:;" + WORK + ")*");
    private static final Pattern PART = Pattern.compile("([0-9]+)([rybt])");
    private static final List<int[]> ORDERS = new ArrayList<>();

    static {
        addOrders(new int[0]);
    }

    private static void addOrders(int[] begun) {
        if (begun.length == 6) {
            ORDERS.add(begun);
        }
        for (int panel = 0; begun.length < 6 && panel < 6; panel++) {
            boolean used = false;
            for (int other : begun) {
                used |= other == panel;
            }
            if (!used) {
                int[] longer = java.util.Arrays.copyOf(begun, begun.length + 1);
                longer[begun.length] = panel;
                addOrders(longer);
            }
        }
    }

    private static final class State {
        int stroke = 3;
        int near = 15;
        int[][] paints = new int[9][4];
        int[] thinned = new int[8];
        int[][] wanted = new int[6][3];
        int[][] shades = new int[6][];
        int[] strokes = new int[6];
        int putIn, onPanels, rinsed, rinses;

        State copy() {
            State s = new State();
            s.stroke = stroke;
            s.near = near;
            for (int i = 0; i < 9; i++) {
                s.paints[i] = paints[i].clone();
            }
            s.thinned = thinned.clone();
            for (int i = 0; i < 6; i++) {
                s.wanted[i] = wanted[i].clone();
                s.shades[i] = shades[i] == null ? null : shades[i].clone();
            }
            s.strokes = strokes.clone();
            s.putIn = putIn;
            s.onPanels = onPanels;
            s.rinsed = rinsed;
            s.rinses = rinses;
            return s;
        }
    }

    private State now = new State();
    private final List<State> history = new ArrayList<>();
    private final State[] slots = new State[2];
    private String pad = "";

    private static int sum(int[] paint) {
        return paint[0] + paint[1] + paint[2] + paint[3];
    }

    private static int[] shade(int[] paint) {
        int all = sum(paint);
        return new int[] {100 * paint[0] / all, 100 * paint[1] / all, 100 * paint[2] / all};
    }

    private static int distance(int[] one, int[] other) {
        int far = 0;
        for (int i = 0; i < 3; i++) {
            far += Math.max(one[i], other[i]) - Math.min(one[i], other[i]);
        }
        return far;
    }

    private static int[] take(int[] paint, int many) {
        int all = sum(paint);
        int[] taken = new int[4];
        for (int kind = 0; kind < 4; kind++) {
            taken[kind] = paint[kind] * many / all;
        }
        List<Integer> kinds = new ArrayList<>(List.of(0, 1, 2, 3));
        kinds.sort((a, b) -> (paint[b] * many % all) - (paint[a] * many % all));
        for (int next = 0; sum(taken) < many; next++) {
            taken[kinds.get(next)]++;
        }
        for (int kind = 0; kind < 4; kind++) {
            paint[kind] -= taken[kind];
        }
        return taken;
    }

    private int change(State before, int answer) {
        if (answer >= 0) {
            history.add(before);
            if (history.size() > 6) {
                history.remove(0);
            }
        }
        return answer;
    }

    int set(int setting, int value) {
        State before = now.copy();
        if (setting == 0 && value >= 1 && value <= 9) {
            now.stroke = value;
            return change(before, before.stroke);
        }
        if (setting == 1 && value >= 0 && value <= 60) {
            now.near = value;
            return change(before, before.near);
        }
        return BAD_VALUE;
    }

    private static boolean noPot(int pot) {
        return pot < 0 || pot > 7;
    }

    private int tryFill(int pot, int kind, int drops) {
        if (noPot(pot) || kind < 0 || kind > 3) {
            return NO_SUCH;
        }
        if (drops < 1 || drops > 81) {
            return BAD_VALUE;
        }
        if (sum(now.paints[pot]) + drops > 81) {
            return TOO_MANY;
        }
        now.paints[pot][kind] += drops;
        now.putIn += drops;
        return sum(now.paints[pot]);
    }

    int fill(int pot, int kind, int drops) {
        State before = now.copy();
        return change(before, tryFill(pot, kind, drops));
    }

    private int tryThin(int pot) {
        if (noPot(pot)) {
            return NO_SUCH;
        }
        int all = sum(now.paints[pot]);
        if (all == 0) {
            return NOT_POSSIBLE;
        }
        if (all > 27) {
            return TOO_MANY;
        }
        now.paints[pot][3] += 2 * all;
        now.putIn += 2 * all;
        now.thinned[pot]++;
        return 3 * all;
    }

    int thin(int pot) {
        State before = now.copy();
        return change(before, tryThin(pot));
    }

    private int move(int from, int to, int many, int most) {
        if (sum(now.paints[from]) < many) {
            return NOT_POSSIBLE;
        }
        if (sum(now.paints[to]) + many > most) {
            return TOO_MANY;
        }
        int[] taken = take(now.paints[from], many);
        for (int kind = 0; kind < 4; kind++) {
            now.paints[to][kind] += taken[kind];
        }
        return sum(now.paints[to]);
    }

    private int tryPour(int pot, int other, int drops) {
        if (noPot(pot) || noPot(other)) {
            return NO_SUCH;
        }
        return pot == other || drops < 1 || drops > 81 ? BAD_VALUE : move(pot, other, drops, 81);
    }

    int pour(int pot, int other, int drops) {
        State before = now.copy();
        return change(before, tryPour(pot, other, drops));
    }

    int empty(int pot) {
        if (noPot(pot)) {
            return NO_SUCH;
        }
        State before = now.copy();
        int all = sum(now.paints[pot]);
        now.paints[pot] = new int[4];
        now.rinsed += all;
        return change(before, all);
    }

    private int tryDip(int pot, int drops) {
        if (noPot(pot)) {
            return NO_SUCH;
        }
        return drops < 1 || drops > 9 ? BAD_VALUE : move(pot, 8, drops, 9);
    }

    int dip(int pot, int drops) {
        State before = now.copy();
        return change(before, tryDip(pot, drops));
    }

    private int tryPaint(int panel) {
        if (panel < 0 || panel > 5) {
            return NO_SUCH;
        }
        if (sum(now.paints[8]) < now.stroke) {
            return NOT_POSSIBLE;
        }
        now.shades[panel] = shade(now.paints[8]);
        take(now.paints[8], now.stroke);
        now.onPanels += now.stroke;
        now.strokes[panel]++;
        return distance(now.shades[panel], now.wanted[panel]);
    }

    int paint(int panel) {
        State before = now.copy();
        return change(before, tryPaint(panel));
    }

    private int tryRinse() {
        int all = sum(now.paints[8]);
        now.rinsed += all;
        now.rinses += all > 0 ? 1 : 0;
        now.paints[8] = new int[4];
        return all;
    }

    int rinse() {
        State before = now.copy();
        return change(before, tryRinse());
    }

    int want(int panel, int r, int y, int b) {
        if (panel < 0 || panel > 5) {
            return NO_SUCH;
        }
        for (int strength : new int[] {r, y, b}) {
            if (strength < 0 || strength > 100) {
                return BAD_VALUE;
            }
        }
        State before = now.copy();
        now.wanted[panel] = new int[] {r, y, b};
        return change(before, count(7));
    }

    int run() {
        if (!TEXT.matcher(pad).matches()) {
            return BAD_TEXT;
        }
        State before = now.copy();
        int done = 0;
        for (String work : pad.split(";")) {
            done += doWork(work) ? 1 : 0;
        }
        pad = "";
        return change(before, done);
    }

    private static int digit(String work, int index) {
        return work.charAt(index) - '0';
    }

    private boolean doWork(String work) {
        if (work.charAt(0) == 'r') {
            return tryRinse() >= 0;
        }
        if (work.charAt(0) == 'p') {
            return tryPaint(digit(work, 1)) >= 0;
        }
        if (work.charAt(0) == 'd') {
            return tryDip(digit(work, 1), digit(work, 3)) >= 0;
        }
        if (work.charAt(1) == '!') {
            return tryThin(digit(work, 0)) >= 0;
        }
        if (work.charAt(1) == '>') {
            return tryPour(digit(work, 0), digit(work, 2), Integer.parseInt(work.substring(4))) >= 0;
        }
        boolean any = false;
        Matcher part = PART.matcher(work.substring(2));
        while (part.find()) {
            any |= tryFill(digit(work, 0), "rybt".indexOf(part.group(2)), Integer.parseInt(part.group(1))) >= 0;
        }
        return any;
    }

    private static int aboutPaint(int[] paint, int what) {
        if (what < 4) {
            return paint[what];
        }
        if (what == 4) {
            return sum(paint);
        }
        return sum(paint) == 0 ? NONE : shade(paint)[what - 5];
    }

    int pot(int pot, int what) {
        if (noPot(pot)) {
            return NO_SUCH;
        }
        if (what < 0 || what > 8) {
            return BAD_VALUE;
        }
        return what == 8 ? now.thinned[pot] : aboutPaint(now.paints[pot], what);
    }

    int brush(int what) {
        return what < 0 || what > 7 ? BAD_VALUE : aboutPaint(now.paints[8], what);
    }

    int panel(int panel, int what) {
        if (panel < 0 || panel > 5) {
            return NO_SUCH;
        }
        if (what < 0 || what > 8) {
            return BAD_VALUE;
        }
        int[] shade = now.shades[panel];
        if (what < 3) {
            return now.wanted[panel][what];
        }
        if (what == 8) {
            return now.strokes[panel];
        }
        if (shade == null) {
            return what == 7 ? 0 : NONE;
        }
        int far = distance(shade, now.wanted[panel]);
        return what < 6 ? shade[what - 3] : what == 6 ? far : far <= now.near ? 1 : 0;
    }

    int count(int what) {
        int inPots = 0;
        for (int pot = 0; pot < 8; pot++) {
            inPots += sum(now.paints[pot]);
        }
        int painted = 0;
        int well = 0;
        int strokes = 0;
        for (int panel = 0; panel < 6; panel++) {
            painted += now.shades[panel] != null ? 1 : 0;
            well += panel(panel, 7);
            strokes += now.strokes[panel];
        }
        int[] all = {now.stroke, now.near, now.putIn, inPots, now.onPanels, now.rinsed, painted, well, strokes,
            now.rinses, pad.length(), history.size()};
        return what < 0 || what > 11 ? BAD_VALUE : all[what];
    }

    int nearest(int panel, int what) {
        if (panel < 0 || panel > 5) {
            return NO_SUCH;
        }
        if (what != 0 && what != 1) {
            return BAD_VALUE;
        }
        int[] found = {NONE, NONE};
        for (int pot = 7; pot >= 0; pot--) {
            if (sum(now.paints[pot]) > 0) {
                int far = distance(shade(now.paints[pot]), now.wanted[panel]);
                if (found[0] == NONE || far <= found[1]) {
                    found = new int[] {pot, far};
                }
            }
        }
        return found[what];
    }

    int bestThinning(int panel, int pot, int what) {
        if (panel < 0 || panel > 5 || noPot(pot)) {
            return NO_SUCH;
        }
        if (what != 0 && what != 1) {
            return BAD_VALUE;
        }
        if (sum(now.paints[pot]) == 0) {
            return NOT_POSSIBLE;
        }
        SlowPots trial = new SlowPots();
        trial.now = now.copy();
        int[] found = null;
        for (int times = 0; times == 0 || trial.thin(pot) >= 0; times++) {
            int far = distance(shade(trial.now.paints[pot]), now.wanted[panel]);
            if (found == null || far < found[1]) {
                found = new int[] {times, far};
            }
        }
        return found[what];
    }

    int bestMixture(int panel, int what) {
        if (panel < 0 || panel > 5) {
            return NO_SUCH;
        }
        if (what < 0 || what > 4) {
            return BAD_VALUE;
        }
        int[] found = null;
        for (int key = 0; key < 8 * 8 * 81; key++) {
            int[] one = {key / 648, key / 81 % 8, key % 81 / 9 + 1, key % 9 + 1, 0};
            if (one[0] < one[1] && sum(now.paints[one[0]]) > 0 && sum(now.paints[one[1]]) > 0) {
                one[4] = distance(mixed(one), now.wanted[panel]);
                if (found == null || one[4] < found[4]) {
                    found = one;
                }
            }
        }
        return found == null ? NONE : found[what];
    }

    private int[] mixed(int[] one) {
        int[] lower = now.paints[one[0]];
        int[] greater = now.paints[one[1]];
        long allLower = sum(lower);
        long allGreater = sum(greater);
        int[] shade = new int[3];
        for (int k = 0; k < 3; k++) {
            long drops = lower[k] * one[2] * allGreater + greater[k] * one[3] * allLower;
            shade[k] = (int) (100 * drops / (allLower * allGreater * (one[2] + one[3])));
        }
        return shade;
    }

    private int rinsesOf(int[] order) {
        int many = 0;
        for (int i = 1; i < 6; i++) {
            many += nearest(order[i], 0) != nearest(order[i - 1], 0) ? 1 : 0;
        }
        return many;
    }

    int rinses(int first) {
        if (first < 0 || first > 5) {
            return NO_SUCH;
        }
        int[] order = new int[6];
        for (int i = 0; i < 6; i++) {
            order[i] = first + i < 6 ? first + i : first + i - 6;
        }
        return nearest(0, 0) == NONE ? NONE : rinsesOf(order);
    }

    int bestOrder(int place) {
        if (place < 0 || place > 5) {
            return BAD_VALUE;
        }
        if (nearest(0, 0) == NONE) {
            return NONE;
        }
        int[] best = null;
        int fewest = 0;
        for (int[] order : ORDERS) {
            int many = rinsesOf(order);
            if (best == null || many < fewest) {
                best = order;
                fewest = many;
            }
        }
        return best[place];
    }

    int put(long characters) {
        StringBuilder text = new StringBuilder();
        for (int shift = 56; shift >= 0; shift -= 8) {
            char sign = (char) (characters >> shift & 255);
            if (sign != 0 || text.length() > 0) {
                text.append(sign);
            }
        }
        boolean bad = text.length() == 0;
        for (int i = 0; i < text.length(); i++) {
            bad |= text.charAt(i) < '!' || text.charAt(i) > '~';
        }
        if (bad) {
            return BAD_VALUE;
        }
        if (pad.length() + text.length() > 60) {
            return TOO_MANY;
        }
        pad += text;
        return pad.length();
    }

    int wipe() {
        int before = pad.length();
        pad = "";
        return before;
    }

    int fault() {
        return faultOf(pad);
    }

    /** The longest begin of a text that a good text can begin with ends at the fault. */
    static int faultOf(String text) {
        if (TEXT.matcher(text).matches()) {
            return NONE;
        }
        for (int length = 1; length <= text.length(); length++) {
            Matcher begin = TEXT.matcher(text.substring(0, length));
            if (!begin.matches() && !begin.hitEnd()) {
                return length - 1;
            }
        }
        return text.length();
    }

    int undo() {
        if (history.isEmpty()) {
            return NOT_POSSIBLE;
        }
        now = history.remove(history.size() - 1);
        return history.size();
    }

    int save(int slot) {
        if (slot < 0 || slot > 1) {
            return BAD_VALUE;
        }
        slots[slot] = now.copy();
        return count(3);
    }

    int restore(int slot) {
        if (slot < 0 || slot > 1) {
            return BAD_VALUE;
        }
        if (slots[slot] == null) {
            return NOT_POSSIBLE;
        }
        State before = now;
        now = slots[slot].copy();
        return change(before, count(3));
    }
}
