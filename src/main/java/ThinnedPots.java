/** Pots of paint that are thinned by threes to match the shades that a row of panels wants. */
public final class ThinnedPots {
    public static final int NO_SUCH = -1, BAD_VALUE = -2, BAD_TEXT = -3, TOO_MANY = -4, NOT_POSSIBLE = -5, NONE = -6;
    public static final int STROKE = 0, NEAR = 1;

    private static final int POTS = 8, PANELS = 6, KINDS = 4, PIGMENTS = 3, SETTINGS = 2;
    private static final int THINNER = 3;
    private static final int POT_HOLDS = 81, BRUSH_HOLDS = 9, PAD_HOLDS = 60;
    private static final int FULL_STRENGTH = 100;
    private static final int THINNING = 3;
    private static final int MOST_PARTS = 9;
    private static final int HISTORY = 6, SLOTS = 2;
    // One place more than the history has: the state ahead of a change is kept before it is
    // known whether the change fails, and must not overwrite the oldest state then.
    private static final int PLACES = HISTORY + 1;
    // The brush is the paint behind those of the pots, so that all paint is treated alike.
    private static final int BRUSH = POTS;

    private final Studio studio;
    private final Advice advice;
    private final Pad pad;
    private final Studio[] history;
    private final Studio[] slots;
    private int nextPlace;
    private int kept;

    public ThinnedPots() {
        studio = new Studio();
        advice = new Advice(studio);
        pad = new Pad();
        history = new Studio[PLACES];
        for (int place = 0; place < history.length; place++) {
            history[place] = new Studio();
        }
        slots = new Studio[SLOTS];
        nextPlace = 0;
        kept = 0;
    }

    // ---- changes

    public int set(int setting, int value) {
        keepState();
        return recorded(studio.changeSetting(setting, value));
    }

    public int fill(int pot, int kind, int drops) {
        keepState();
        return recorded(studio.addDrops(pot, kind, drops));
    }

    public int thin(int pot) {
        keepState();
        return recorded(studio.thinPot(pot));
    }

    public int pour(int pot, int other, int drops) {
        keepState();
        return recorded(studio.pourOver(pot, other, drops));
    }

    public int empty(int pot) {
        keepState();
        return recorded(studio.emptyPot(pot));
    }

    public int dip(int pot, int drops) {
        keepState();
        return recorded(studio.dipBrush(pot, drops));
    }

    public int paint(int panel) {
        keepState();
        return recorded(studio.paintPanel(panel));
    }

    public int rinse() {
        keepState();
        return recorded(studio.rinseBrush());
    }

    public int want(int panel, int r, int y, int b) {
        keepState();
        return recorded(studio.wantShade(panel, r, y, b));
    }

    public int run() {
        if (pad.firstFault() != NONE) {
            return BAD_TEXT;
        }
        keepState();
        int done = 0;
        boolean more = pad.readFirst();
        for (int turn = 0; turn < PAD_HOLDS && more; turn++) {
            done += didWork(pad.lastRead()) ? 1 : 0;
            more = pad.readNext();
        }
        pad.clear();
        return recorded(done);
    }

    // ---- what there is

    public int pot(int pot, int what) {
        if (!isWithin(pot, POTS)) {
            return NO_SUCH;
        }
        if (what == 8) {
            return studio.timesThinned(pot);
        }
        return studio.aboutPaint(pot, what);
    }

    public int brush(int what) {
        return studio.aboutPaint(BRUSH, what);
    }

    public int panel(int panel, int what) {
        if (!isWithin(panel, PANELS)) {
            return NO_SUCH;
        }
        return studio.aboutPanel(panel, what);
    }

    public int count(int what) {
        if (what == 10) {
            return pad.length();
        }
        if (what == 11) {
            return kept;
        }
        return studio.account(what);
    }

    // ---- what if

    public int nearest(int panel, int what) {
        if (!isWithin(panel, PANELS)) {
            return NO_SUCH;
        }
        if (!isWithin(what, 2)) {
            return BAD_VALUE;
        }
        int nearest = advice.nearestPot(panel);
        if (nearest == NONE || what == 0) {
            return nearest;
        }
        return studio.distanceOfPaint(panel, nearest);
    }

    public int bestThinning(int panel, int pot, int what) {
        if (!isWithin(panel, PANELS) || !isWithin(pot, POTS)) {
            return NO_SUCH;
        }
        if (!isWithin(what, 2)) {
            return BAD_VALUE;
        }
        if (!studio.hasPaint(pot)) {
            return NOT_POSSIBLE;
        }
        int times = advice.bestTimes(panel, pot);
        if (what == 0) {
            return times;
        }
        return advice.distanceThinned(panel, pot, times);
    }

    public int bestMixture(int panel, int what) {
        if (!isWithin(panel, PANELS)) {
            return NO_SUCH;
        }
        if (!isWithin(what, Advice.MIXTURE_NUMBERS)) {
            return BAD_VALUE;
        }
        return advice.mixture(panel, what);
    }

    public int rinses(int first) {
        if (!isWithin(first, PANELS)) {
            return NO_SUCH;
        }
        return advice.rinsesFrom(first);
    }

    public int bestOrder(int place) {
        if (!isWithin(place, PANELS)) {
            return BAD_VALUE;
        }
        return advice.panelInOrder(place);
    }

    // ---- texts

    public int put(long characters) {
        return pad.append(characters);
    }

    public int wipe() {
        return pad.clear();
    }

    public int fault() {
        return pad.firstFault();
    }

    // ---- undo, saving

    public int undo() {
        if (kept == 0) {
            return NOT_POSSIBLE;
        }
        kept--;
        nextPlace = nextPlace == 0 ? PLACES - 1 : nextPlace - 1;
        studio.copyFrom(studioAt(history, nextPlace));
        return kept;
    }

    public int save(int slot) {
        if (slot < 0 || slot >= slots.length) {
            return BAD_VALUE;
        }
        Studio saved = slots[slot];
        if (saved == null) {
            saved = new Studio();
            slots[slot] = saved;
        }
        saved.copyFrom(studio);
        return studio.dropsInPots();
    }

    public int restore(int slot) {
        if (!isWithin(slot, SLOTS)) {
            return BAD_VALUE;
        }
        Studio saved = studioAt(slots, slot);
        if (saved == null) {
            return NOT_POSSIBLE;
        }
        keepState();
        studio.copyFrom(saved);
        return recorded(studio.dropsInPots());
    }

    private void keepState() {
        Studio place = studioAt(history, nextPlace);
        if (place != null) {
            place.copyFrom(studio);
        }
    }

    /** Lets the kept state count, unless the change answered an error: only these are below 0. */
    private int recorded(int answer) {
        if (answer >= 0) {
            nextPlace = nextPlace >= PLACES - 1 ? 0 : nextPlace + 1;
            kept = Math.min(kept + 1, HISTORY);
        }
        return answer;
    }

    private boolean didWork(Work work) {
        if (work == null) {
            return false;
        }
        switch (work.task) {
            case '+': return didFill(work);
            case '!': return studio.thinPot(work.target) >= 0;
            case '>': return studio.pourOver(work.target, work.other, work.drops) >= 0;
            case 'd': return studio.dipBrush(work.target, work.drops) >= 0;
            case 'p': return studio.paintPanel(work.target) >= 0;
            case 'r': return studio.rinseBrush() >= 0;
            default: return false;
        }
    }

    private boolean didFill(Work work) {
        boolean any = false;
        for (int kind = 0; kind < KINDS; kind++) {
            int drops = at(work.dropsOfKinds, kind);
            if (drops > 0 && studio.addDrops(work.target, kind, drops) >= 0) {
                any = true;
            }
        }
        return any;
    }

    private static boolean isWithin(int number, int many) {
        return number >= 0 && number < many;
    }

    private static boolean isBetween(int number, int least, int most) {
        return number >= least && number <= most;
    }

    private static int at(int[] row, int index) {
        if (row == null || index < 0 || index >= row.length) {
            return 0;
        }
        return row[index];
    }

    private static void write(int[] row, int index, int value) {
        if (row != null && index >= 0 && index < row.length) {
            row[index] = value;
        }
    }

    private static void add(int[] row, int index, int more) {
        write(row, index, at(row, index) + more);
    }

    private static void copyRow(int[] from, int[] to) {
        if (from != null && to != null) {
            System.arraycopy(from, 0, to, 0, Math.min(from.length, to.length));
        }
    }

    private static int divide(int number, int divisor) {
        return divisor <= 0 ? 0 : number / divisor;
    }

    private static int remainder(int number, int divisor) {
        return divisor <= 0 ? 0 : number % divisor;
    }

    private static Studio studioAt(Studio[] row, int index) {
        if (row == null || index < 0 || index >= row.length) {
            return null;
        }
        return row[index];
    }

    /** All that undo and the slots bring back; its changes answer as the methods of the face do. */
    private static final class Studio {
        private final int[] settings;
        private final int[] drops;
        private final int[] thinnings;
        private final int[] wanted;
        private final int[] painted;
        private final int[] strokes;
        private int dropsPutIn;
        private int dropsOnPanels;
        private int dropsRinsed;
        private int rinsesWithDrops;
        // Rows for takeOut(), made once, since what a run makes is counted.
        private final int[] taken;
        private final int[] leftOver;

        Studio() {
            settings = new int[SETTINGS];
            write(settings, STROKE, 3);
            write(settings, NEAR, 15);
            drops = new int[(POTS + 1) * KINDS];
            thinnings = new int[POTS];
            wanted = new int[PANELS * PIGMENTS];
            painted = new int[PANELS * PIGMENTS];
            strokes = new int[PANELS];
            dropsPutIn = 0;
            dropsOnPanels = 0;
            dropsRinsed = 0;
            rinsesWithDrops = 0;
            taken = new int[KINDS];
            leftOver = new int[KINDS];
        }

        void copyFrom(Studio other) {
            if (other == null) {
                return;
            }
            copyRow(other.settings, settings);
            copyRow(other.drops, drops);
            copyRow(other.thinnings, thinnings);
            copyRow(other.wanted, wanted);
            copyRow(other.painted, painted);
            copyRow(other.strokes, strokes);
            dropsPutIn = other.dropsPutIn;
            dropsOnPanels = other.dropsOnPanels;
            dropsRinsed = other.dropsRinsed;
            rinsesWithDrops = other.rinsesWithDrops;
        }

        int changeSetting(int setting, int value) {
            boolean fits = setting == STROKE && isBetween(value, 1, 9)
                || setting == NEAR && isBetween(value, 0, 60);
            if (!fits) {
                return BAD_VALUE;
            }
            int before = at(settings, setting);
            write(settings, setting, value);
            return before;
        }

        int addDrops(int pot, int kind, int many) {
            if (!isWithin(pot, POTS) || !isWithin(kind, KINDS)) {
                return NO_SUCH;
            }
            if (!isBetween(many, 1, POT_HOLDS)) {
                return BAD_VALUE;
            }
            int all = allDrops(pot) + many;
            if (all > POT_HOLDS) {
                return TOO_MANY;
            }
            add(drops, pot * KINDS + kind, many);
            dropsPutIn += many;
            return all;
        }

        int thinPot(int pot) {
            if (!isWithin(pot, POTS)) {
                return NO_SUCH;
            }
            int before = allDrops(pot);
            if (before == 0) {
                return NOT_POSSIBLE;
            }
            int all = before * THINNING;
            if (all > POT_HOLDS) {
                return TOO_MANY;
            }
            add(drops, pot * KINDS + THINNER, all - before);
            add(thinnings, pot, 1);
            dropsPutIn += all - before;
            return all;
        }

        int pourOver(int pot, int other, int many) {
            if (!isWithin(pot, POTS) || !isWithin(other, POTS)) {
                return NO_SUCH;
            }
            if (pot == other || !isBetween(many, 1, POT_HOLDS)) {
                return BAD_VALUE;
            }
            return move(pot, other, many, POT_HOLDS);
        }

        int emptyPot(int pot) {
            if (!isWithin(pot, POTS)) {
                return NO_SUCH;
            }
            return sink(pot);
        }

        int dipBrush(int pot, int many) {
            if (!isWithin(pot, POTS)) {
                return NO_SUCH;
            }
            if (!isBetween(many, 1, BRUSH_HOLDS)) {
                return BAD_VALUE;
            }
            return move(pot, BRUSH, many, BRUSH_HOLDS);
        }

        int paintPanel(int panel) {
            if (!isWithin(panel, PANELS)) {
                return NO_SUCH;
            }
            int stroke = at(settings, STROKE);
            if (allDrops(BRUSH) < stroke) {
                return NOT_POSSIBLE;
            }
            for (int pigment = 0; pigment < PIGMENTS; pigment++) {
                write(painted, panel * PIGMENTS + pigment, strength(BRUSH, pigment));
            }
            takeOut(BRUSH, stroke);
            add(strokes, panel, 1);
            dropsOnPanels += stroke;
            return distanceOfPanel(panel);
        }

        int rinseBrush() {
            int all = sink(BRUSH);
            if (all > 0) {
                rinsesWithDrops++;
            }
            return all;
        }

        int wantShade(int panel, int r, int y, int b) {
            if (!isWithin(panel, PANELS)) {
                return NO_SUCH;
            }
            if (!isStrength(r) || !isStrength(y) || !isStrength(b)) {
                return BAD_VALUE;
            }
            write(wanted, panel * PIGMENTS, r);
            write(wanted, panel * PIGMENTS + 1, y);
            write(wanted, panel * PIGMENTS + 2, b);
            return panelsWell();
        }

        int aboutPaint(int paint, int what) {
            if (!isBetween(what, 0, 7)) {
                return BAD_VALUE;
            }
            if (what < KINDS) {
                return dropsOf(paint, what);
            }
            if (what == 4) {
                return allDrops(paint);
            }
            return hasPaint(paint) ? strength(paint, what - 5) : NONE;
        }

        int timesThinned(int pot) {
            return at(thinnings, pot);
        }

        int aboutPanel(int panel, int what) {
            if (!isBetween(what, 0, 8)) {
                return BAD_VALUE;
            }
            if (what < 3) {
                return at(wanted, panel * PIGMENTS + what);
            }
            if (what == 7) {
                return isWell(panel) ? 1 : 0;
            }
            if (what == 8) {
                return at(strokes, panel);
            }
            if (!isPainted(panel)) {
                return NONE;
            }
            return what == 6 ? distanceOfPanel(panel) : at(painted, panel * PIGMENTS + what - 3);
        }

        /** What count() tells of all but the pad and the history. */
        int account(int what) {
            switch (what) {
                case 0: return at(settings, STROKE);
                case 1: return at(settings, NEAR);
                case 2: return dropsPutIn;
                case 3: return dropsInPots();
                case 4: return dropsOnPanels;
                case 5: return dropsRinsed;
                case 6: return panelsPainted();
                case 7: return panelsWell();
                case 8: return allStrokes();
                case 9: return rinsesWithDrops;
                default: return BAD_VALUE;
            }
        }

        int dropsInPots() {
            int all = 0;
            for (int pot = 0; pot < POTS; pot++) {
                all += allDrops(pot);
            }
            return all;
        }

        int dropsOf(int paint, int kind) {
            return at(drops, paint * KINDS + kind);
        }

        int allDrops(int paint) {
            int first = paint * KINDS;
            if (first < 0 || first > drops.length - KINDS) {
                return 0;
            }
            return drops[first] + drops[first + 1] + drops[first + 2] + drops[first + 3];
        }

        boolean hasPaint(int paint) {
            return allDrops(paint) > 0;
        }

        int distanceOfPaint(int panel, int paint) {
            return distance(panel, strength(paint, 0), strength(paint, 1), strength(paint, 2));
        }

        /** How far a shade is from the one that the panel wants. */
        int distance(int panel, int r, int y, int b) {
            int first = panel * PIGMENTS;
            return Math.abs(r - at(wanted, first))
                + Math.abs(y - at(wanted, first + 1))
                + Math.abs(b - at(wanted, first + 2));
        }

        private int strength(int paint, int pigment) {
            return divide(FULL_STRENGTH * at(drops, paint * KINDS + pigment), allDrops(paint));
        }

        private int distanceOfPanel(int panel) {
            int first = panel * PIGMENTS;
            return distance(panel, at(painted, first), at(painted, first + 1), at(painted, first + 2));
        }

        private static boolean isStrength(int number) {
            return isBetween(number, 0, FULL_STRENGTH);
        }

        // No stroke can be taken off a panel, so its strokes tell whether it has a shade.
        private boolean isPainted(int panel) {
            return at(strokes, panel) > 0;
        }

        private boolean isWell(int panel) {
            return isPainted(panel) && distanceOfPanel(panel) <= at(settings, NEAR);
        }

        private int panelsPainted() {
            int many = 0;
            for (int panel = 0; panel < PANELS; panel++) {
                many += isPainted(panel) ? 1 : 0;
            }
            return many;
        }

        private int panelsWell() {
            int many = 0;
            for (int panel = 0; panel < PANELS; panel++) {
                many += isWell(panel) ? 1 : 0;
            }
            return many;
        }

        private int allStrokes() {
            int many = 0;
            for (int panel = 0; panel < PANELS; panel++) {
                many += at(strokes, panel);
            }
            return many;
        }

        private int sink(int paint) {
            int all = allDrops(paint);
            for (int kind = 0; kind < KINDS; kind++) {
                write(drops, paint * KINDS + kind, 0);
            }
            dropsRinsed += all;
            return all;
        }

        private int move(int from, int to, int many, int holds) {
            if (allDrops(from) < many) {
                return NOT_POSSIBLE;
            }
            int all = allDrops(to) + many;
            if (all > holds) {
                return TOO_MANY;
            }
            takeOut(from, many);
            for (int kind = 0; kind < KINDS; kind++) {
                add(drops, to * KINDS + kind, at(taken, kind));
            }
            return all;
        }

        /** Takes drops out of paint that has as many; the row "taken" tells how many of each kind. */
        private void takeOut(int paint, int many) {
            int all = allDrops(paint);
            int missing = many;
            for (int kind = 0; kind < KINDS; kind++) {
                int product = at(drops, paint * KINDS + kind) * many;
                write(taken, kind, divide(product, all));
                write(leftOver, kind, remainder(product, all));
                missing -= at(taken, kind);
            }
            for (int turn = 0; turn < KINDS && missing > 0; turn++) {
                int kind = kindWithMostLeftOver();
                add(taken, kind, 1);
                // Below all that a division leaves over: no kind gives a second drop.
                write(leftOver, kind, -1);
                missing--;
            }
            for (int kind = 0; kind < KINDS; kind++) {
                add(drops, paint * KINDS + kind, -at(taken, kind));
            }
        }

        private int kindWithMostLeftOver() {
            int most = 0;
            for (int kind = 1; kind < KINDS; kind++) {
                if (at(leftOver, kind) > at(leftOver, most)) {
                    most = kind;
                }
            }
            return most;
        }
    }

    /** What would be best for the panels, as the studio is; it changes nothing there. */
    private static final class Advice {
        static final int MIXTURE_NUMBERS = 5;
        private static final int LOWER = 0, GREATER = 1, LOWER_PARTS = 2, GREATER_PARTS = 3, DISTANCE = 4;
        // Greater than every distance: three strengths differ by 100 each at the most.
        private static final int FAR = 1000;
        // One drop that is thinned so often fills a pot.
        private static final int MOST_THINNINGS = 4;

        private final Studio studio;
        // Rows that are used again by each call, since what a run makes is counted.
        private final int[] best;
        private final int[] ofLower;
        private final int[] ofGreater;
        private final int[] potFor;
        private final int[] order;

        Advice(Studio studio) {
            this.studio = studio;
            best = new int[MIXTURE_NUMBERS];
            ofLower = new int[PIGMENTS];
            ofGreater = new int[PIGMENTS];
            potFor = new int[PANELS];
            order = new int[PANELS];
        }

        /** The pot that is the nearest to what a panel wants, NONE if all pots are empty. */
        int nearestPot(int panel) {
            int nearest = NONE;
            int least = FAR;
            for (int pot = 0; pot < POTS; pot++) {
                if (studio.hasPaint(pot)) {
                    int distance = studio.distanceOfPaint(panel, pot);
                    if (distance < least) {
                        least = distance;
                        nearest = pot;
                    }
                }
            }
            return nearest;
        }

        int bestTimes(int panel, int pot) {
            int best = 0;
            int least = distanceThinned(panel, pot, 0);
            int all = studio.allDrops(pot) * THINNING;
            for (int times = 1; times <= MOST_THINNINGS && all <= POT_HOLDS; times++) {
                int distance = distanceThinned(panel, pot, times);
                if (distance < least) {
                    least = distance;
                    best = times;
                }
                all *= THINNING;
            }
            return best;
        }

        /** The distance from what the panel wants, if the pot was thinned so often. */
        int distanceThinned(int panel, int pot, int times) {
            int all = studio.allDrops(pot);
            for (int time = 0; time < times && time < MOST_THINNINGS; time++) {
                all *= THINNING;
            }
            return studio.distance(panel, thinnedStrength(pot, 0, all), thinnedStrength(pot, 1, all),
                thinnedStrength(pot, 2, all));
        }

        private int thinnedStrength(int pot, int pigment, int all) {
            return divide(FULL_STRENGTH * studio.dropsOf(pot, pigment), all);
        }

        /** A number of the best mixture, NONE if fewer than two pots have paint. */
        int mixture(int panel, int what) {
            write(best, DISTANCE, FAR);
            for (int lower = 0; lower < POTS; lower++) {
                for (int greater = lower + 1; greater < POTS; greater++) {
                    if (studio.hasPaint(lower) && studio.hasPaint(greater)) {
                        tryParts(panel, lower, greater);
                    }
                }
            }
            return at(best, DISTANCE) == FAR ? NONE : at(best, what);
        }

        private void tryParts(int panel, int lower, int greater) {
            int allOfLower = studio.allDrops(lower);
            int allOfGreater = studio.allDrops(greater);
            for (int pigment = 0; pigment < PIGMENTS; pigment++) {
                write(ofLower, pigment, FULL_STRENGTH * studio.dropsOf(lower, pigment) * allOfGreater);
                write(ofGreater, pigment, FULL_STRENGTH * studio.dropsOf(greater, pigment) * allOfLower);
            }
            for (int parts = 1; parts <= MOST_PARTS; parts++) {
                for (int others = 1; others <= MOST_PARTS; others++) {
                    int whole = allOfLower * allOfGreater * (parts + others);
                    int distance = studio.distance(panel, mixedStrength(0, parts, others, whole),
                        mixedStrength(1, parts, others, whole), mixedStrength(2, parts, others, whole));
                    if (distance < at(best, DISTANCE)) {
                        write(best, LOWER, lower);
                        write(best, GREATER, greater);
                        write(best, LOWER_PARTS, parts);
                        write(best, GREATER_PARTS, others);
                        write(best, DISTANCE, distance);
                    }
                }
            }
        }

        private int mixedStrength(int pigment, int parts, int others, int whole) {
            return divide(at(ofLower, pigment) * parts + at(ofGreater, pigment) * others, whole);
        }

        /** How often the brush has to be rinsed along the ring, NONE if all pots are empty. */
        int rinsesFrom(int first) {
            if (!choosePots()) {
                return NONE;
            }
            int many = 0;
            for (int step = 1; step < PANELS; step++) {
                int panel = (first + step) % PANELS;
                int before = (first + step - 1) % PANELS;
                many += at(potFor, panel) != at(potFor, before) ? 1 : 0;
            }
            return many;
        }

        /**
         * The panel at a place of the best order, NONE if all pots are empty. The brush is rinsed
         * the least often if the panels of one pot follow one another; so the lowest panel that
         * is left comes with all that share its pot.
         */
        int panelInOrder(int place) {
            if (!choosePots()) {
                return NONE;
            }
            int ordered = 0;
            for (int first = 0; first < PANELS; first++) {
                if (isFirstOfItsPot(first)) {
                    for (int panel = first; panel < PANELS; panel++) {
                        if (at(potFor, panel) == at(potFor, first)) {
                            write(order, ordered, panel);
                            ordered++;
                        }
                    }
                }
            }
            return at(order, place);
        }

        private boolean isFirstOfItsPot(int panel) {
            for (int lower = 0; lower < panel; lower++) {
                if (at(potFor, lower) == at(potFor, panel)) {
                    return false;
                }
            }
            return true;
        }

        /** Finds the pot of each panel; false if all pots are empty. */
        private boolean choosePots() {
            for (int panel = 0; panel < PANELS; panel++) {
                write(potFor, panel, nearestPot(panel));
            }
            return at(potFor, 0) != NONE;
        }
    }

    /** A work as the pad tells it, under the sign that tells it from the others: + ! > d p r. */
    private static final class Work {
        private int task;
        // The pot, or the panel.
        private int target;
        private int other;
        private int drops;
        // 0 for a kind that is not told.
        private final int[] dropsOfKinds;

        Work() {
            dropsOfKinds = new int[KINDS];
            begin(0, 0);
        }

        void begin(int newTask, int newTarget) {
            task = newTask;
            target = newTarget;
            other = 0;
            drops = 0;
            for (int kind = 0; kind < KINDS; kind++) {
                write(dropsOfKinds, kind, 0);
            }
        }
    }

    /** The text of works, and its reader. */
    private static final class Pad {
        private static final int MOST_AT_ONCE = 8;
        private static final int END = 0;

        private final int[] signs;
        private int length;
        // Where the reader stands: where it could not go on, there is the fault.
        private int place;
        // One work that is used again for each, since what a run makes is counted.
        private final Work work;

        Pad() {
            signs = new int[PAD_HOLDS];
            length = 0;
            place = 0;
            work = new Work();
        }

        int length() {
            return length;
        }

        int clear() {
            int before = length;
            length = 0;
            return before;
        }

        int append(long characters) {
            int many = charactersIn(characters);
            if (many == BAD_VALUE) {
                return BAD_VALUE;
            }
            if (length + many > PAD_HOLDS) {
                return TOO_MANY;
            }
            for (int character = many - 1; character >= 0; character--) {
                write(signs, length, code(characters, character));
                length++;
            }
            return length;
        }

        private static int charactersIn(long characters) {
            int many = 0;
            while (many < MOST_AT_ONCE && code(characters, many) != 0) {
                if (!isBetween(code(characters, many), 33, 126)) {
                    return BAD_VALUE;
                }
                many++;
            }
            // A shift by all 64 bits would shift by none, so eight characters are told apart.
            boolean moreAbove = many < MOST_AT_ONCE && (characters >>> (8 * many)) != 0;
            return many == 0 || moreAbove ? BAD_VALUE : many;
        }

        private static int code(long characters, int fromTheLast) {
            return (int) ((characters >>> (8 * fromTheLast)) & 255L);
        }

        int firstFault() {
            place = 0;
            boolean good = readWork();
            for (int turn = 0; turn < PAD_HOLDS && good && place < length; turn++) {
                good = readSign(';') && readWork();
            }
            return good ? NONE : place;
        }

        /** Reads the first work; false if it has a fault. */
        boolean readFirst() {
            place = 0;
            return readWork();
        }

        /** Reads the work behind the one that was read last; false if none or a fault is there. */
        boolean readNext() {
            return readSign(';') && readWork();
        }

        Work lastRead() {
            return work;
        }

        private boolean readWork() {
            int pot = readDigit(0, POTS - 1);
            int task = sign();
            boolean ofPot = task == '+' || task == '!' || task == '>';
            boolean ofNone = task == 'd' || task == 'p' || task == 'r';
            if (pot >= 0 ? !ofPot : !ofNone) {
                return false;
            }
            place++;
            work.begin(task, pot);
            switch (task) {
                case '+': return readKinds();
                case '>': return readOther() && readSign(':') && readDrops(readNumber());
                case 'd': return readTarget(POTS) && readSign(':') && readDrops(readDigit(1, BRUSH_HOLDS));
                case 'p': return readTarget(PANELS);
                default: return true;
            }
        }

        private boolean readTarget(int many) {
            work.target = readDigit(0, many - 1);
            return work.target >= 0;
        }

        private boolean readOther() {
            work.other = readDigit(0, POTS - 1);
            return work.other >= 0;
        }

        private boolean readDrops(int drops) {
            work.drops = drops;
            return drops >= 0;
        }

        private boolean readKinds() {
            int kind = -1;
            // Behind thinner no kind can come, and so no number either.
            for (int part = 0; part < KINDS && kind < THINNER && (part == 0 || !isAtEndOfWork()); part++) {
                int number = readNumber();
                if (number < 0) {
                    return false;
                }
                kind = readKind(kind + 1);
                if (kind < 0) {
                    return false;
                }
                write(work.dropsOfKinds, kind, number);
            }
            return true;
        }

        private boolean isAtEndOfWork() {
            return place >= length || sign() == ';';
        }

        private int sign() {
            if (place < 0 || place >= length || place >= signs.length) {
                return END;
            }
            return signs[place];
        }

        private boolean readSign(int wanted) {
            if (sign() != wanted) {
                return false;
            }
            place++;
            return true;
        }

        /** A digit, -1 if none from the least to the most one stands here. */
        private int readDigit(int least, int most) {
            int digit = sign() - '0';
            if (!isBetween(digit, least, most)) {
                return -1;
            }
            place++;
            return digit;
        }

        /** A number of 1 to 81, -1 if none can stand here; a third digit is refused behind it. */
        private int readNumber() {
            int number = readDigit(1, 9);
            if (number < 0 || !isBetween(sign(), '0', '9')) {
                return number;
            }
            int digit = readDigit(0, Math.min(9, POT_HOLDS - 10 * number));
            return digit < 0 ? -1 : 10 * number + digit;
        }

        /** A kind that is not below the lowest one, -1 if no letter of such a one stands here. */
        private int readKind(int lowest) {
            int kind = kindOf(sign());
            if (kind < lowest) {
                return -1;
            }
            place++;
            return kind;
        }

        private static int kindOf(int letter) {
            switch (letter) {
                case 'r': return 0;
                case 'y': return 1;
                case 'b': return 2;
                case 't': return 3;
                default: return -1;
            }
        }
    }
}
