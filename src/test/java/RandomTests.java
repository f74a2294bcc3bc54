/** Long runs of calls by a fixed row of numbers, each answer compared with that of SlowPots. */
public final class RandomTests {
    private static final int RUNS = 400;
    private static final int CALLS = 512;
    private static final Checks CHECKS = new Checks();
    private static final String SIGNS = "0123456789rybtdp+!>:;";
    private static final int[] FAR_OFF = {Integer.MIN_VALUE, -1000, 82, 1000, Integer.MAX_VALUE};

    private long seed;
    private final ThinnedPots pots = new ThinnedPots();
    private final SlowPots slow = new SlowPots();

    private RandomTests(long seed) {
        this.seed = seed;
    }

    public static void main(String[] args) {
        for (int run = 0; run < RUNS; run++) {
            RandomTests tests = new RandomTests(run * 7919L + 13);
            for (int call = 0; call < CALLS; call++) {
                tests.oneCall(run, call);
            }
        }
        CHECKS.end();
    }

    private int below(int bound) {
        seed = seed * 6364136223846793005L + 1442695040888963407L;
        return (int) ((seed >>> 33) % bound);
    }

    /** Mostly a number of 0 to the last one, at times one beside them or far off. */
    private int upTo(int last) {
        int choice = below(40);
        if (choice == 0) {
            return below(2) == 0 ? -1 : last + 1;
        }
        return choice == 1 ? FAR_OFF[below(FAR_OFF.length)] : below(last + 1);
    }

    private int few(int most) {
        return below(3) == 0 ? upTo(most) : 1 + below(Math.min(most, 12));
    }

    private String work() {
        int pot = below(8);
        switch (below(7)) {
            case 0: return "r";
            case 1: return "p" + below(6);
            case 2: return "d" + pot + ":" + (1 + below(9));
            case 3: return pot + "!";
            case 4: return pot + ">" + below(8) + ":" + (1 + below(below(2) == 0 ? 9 : 81));
            default:
                StringBuilder text = new StringBuilder(pot + "+");
                int must = below(4);
                for (int kind = 0; kind < 4; kind++) {
                    if (kind == must || below(3) == 0) {
                        text.append(1 + below(below(3) == 0 ? 81 : 12)).append("rybt".charAt(kind));
                    }
                }
                return text.toString();
        }
    }

    private String spoiled(String text) {
        StringBuilder other = new StringBuilder(text);
        int index = below(text.length() + 1);
        char sign = SIGNS.charAt(below(SIGNS.length()));
        if (below(3) == 0 || index == text.length()) {
            other.insert(index, sign);
        } else if (below(2) == 0) {
            other.setCharAt(index, sign);
        } else {
            other.deleteCharAt(index);
        }
        return other.toString();
    }

    private void write(int run, int call) {
        StringBuilder text = new StringBuilder(work());
        for (int more = below(6); more > 0; more--) {
            text.append(';').append(work());
        }
        if (below(4) != 0) {
            due(run, call, "wipe", pots.wipe(), slow.wipe());
        }
        String pieces = below(3) == 0 ? spoiled(text.toString()) : text.toString();
        for (int from = 0; from < pieces.length(); from += 8) {
            long packed = Checks.packed(pieces.substring(from, Math.min(from + 8, pieces.length())));
            due(run, call, "put " + packed, pots.put(packed), slow.put(packed));
        }
        due(run, call, "fault of " + pieces, pots.fault(), slow.fault());
        if (below(2) == 0) {
            due(run, call, "run of " + pieces, pots.run(), slow.run());
        }
    }

    private void putAnything(int run, int call) {
        long packed = 0;
        for (int i = below(9); i > 0; i--) {
            packed = packed << 8 | (below(12) == 0 ? below(256) : SIGNS.charAt(below(SIGNS.length())));
        }
        due(run, call, "put " + packed, pots.put(packed), slow.put(packed));
    }

    private void due(int run, int call, String what, int got, int want) {
        CHECKS.due("run " + run + ", call " + call + ": " + what, got, want);
    }

    private void oneCall(int run, int call) {
        if (below(3) == 0) {
            look(run, call);
        } else {
            change(run, call);
        }
        int what = upTo(11);
        due(run, call, "count " + what, pots.count(what), slow.count(what));
    }

    private void change(int run, int call) {
        int a = upTo(7);
        int b = upTo(7);
        int c = few(81);
        int panel = upTo(5);
        int nine = few(9);
        int kind = upTo(3);
        int slot = upTo(1);
        switch (below(19)) {
            case 0: due(run, call, "set", pots.set(slot, c), slow.set(slot, c)); break;
            case 1:
            case 2:
            case 3: due(run, call, "fill", pots.fill(a, kind, c), slow.fill(a, kind, c)); break;
            case 4: due(run, call, "thin", pots.thin(a), slow.thin(a)); break;
            case 5:
            case 6: due(run, call, "pour", pots.pour(a, b, c), slow.pour(a, b, c)); break;
            case 7: due(run, call, "empty", pots.empty(a), slow.empty(a)); break;
            case 8:
            case 9: due(run, call, "dip", pots.dip(a, nine), slow.dip(a, nine)); break;
            case 10:
            case 11: due(run, call, "paint", pots.paint(panel), slow.paint(panel)); break;
            case 12: due(run, call, "rinse", pots.rinse(), slow.rinse()); break;
            case 13: wantSome(run, call, panel); break;
            case 14: write(run, call); break;
            case 15: due(run, call, "run", pots.run(), slow.run()); break;
            case 16: changePad(run, call); break;
            case 17: due(run, call, "undo", pots.undo(), slow.undo()); break;
            default: keep(run, call, slot); break;
        }
    }

    private void changePad(int run, int call) {
        if (below(3) == 0) {
            putAnything(run, call);
        } else {
            due(run, call, "wipe", pots.wipe(), slow.wipe());
        }
    }

    private void keep(int run, int call, int slot) {
        if (below(2) == 0) {
            due(run, call, "save", pots.save(slot), slow.save(slot));
        } else {
            due(run, call, "restore", pots.restore(slot), slow.restore(slot));
        }
    }

    private void wantSome(int run, int call, int panel) {
        int r = upTo(100);
        int y = upTo(100 - Math.min(100, Math.max(0, r)));
        int b = upTo(20);
        due(run, call, "want", pots.want(panel, r, y, b), slow.want(panel, r, y, b));
    }

    private void look(int run, int call) {
        int pot = upTo(7);
        int panel = upTo(5);
        int nine = upTo(8);
        int two = upTo(1);
        int five = upTo(4);
        switch (below(9)) {
            case 0: due(run, call, "pot " + nine, pots.pot(pot, nine), slow.pot(pot, nine)); break;
            case 1: due(run, call, "brush " + nine, pots.brush(nine), slow.brush(nine)); break;
            case 2: due(run, call, "panel " + nine, pots.panel(panel, nine), slow.panel(panel, nine)); break;
            case 3: due(run, call, "nearest", pots.nearest(panel, two), slow.nearest(panel, two)); break;
            case 4: due(run, call, "thinning", pots.bestThinning(panel, pot, two), slow.bestThinning(panel, pot, two)); break;
            case 5: due(run, call, "mixture " + five, pots.bestMixture(panel, five), slow.bestMixture(panel, five)); break;
            case 6: due(run, call, "rinses", pots.rinses(panel), slow.rinses(panel)); break;
            case 7: due(run, call, "order " + panel, pots.bestOrder(panel), slow.bestOrder(panel)); break;
            default: due(run, call, "fault", pots.fault(), slow.fault()); break;
        }
    }
}
