/** Compares answers with those that are due, and ends a test with exit code 1 if one was wrong. */
final class Checks {
    private static final int MOST_SHOWN = 50;
    private int checked = 0;
    private int wrong = 0;

    void due(String what, long got, long want) {
        checked++;
        if (got != want) {
            wrong++;
            if (wrong <= MOST_SHOWN) {
                System.out.println(what + " answered " + got + ", due is " + want);
            }
        }
    }

    void holds(String what, boolean holds) {
        due(what, holds ? 1 : 0, 1);
    }

    void same(String what, String got, String want) {
        checked++;
        if (!got.equals(want)) {
            wrong++;
            if (wrong <= MOST_SHOWN) {
                System.out.println(what + " answered " + got + ", due is " + want);
            }
        }
    }

    int checked() {
        return checked;
    }

    void end() {
        System.out.println(checked + " checks, " + wrong + " wrong");
        if (wrong != 0 || checked == 0) {
            System.exit(1);
        }
    }

    /** The characters as put() wants them: the last one in the lowest 8 bits. */
    static long packed(String characters) {
        long number = 0;
        for (int i = 0; i < characters.length(); i++) {
            number = number << 8 | characters.charAt(i);
        }
        return number;
    }

    /** Appends a text to the pad in pieces, and returns the last answer of put(). */
    static int type(ThinnedPots pots, String text) {
        int answer = 0;
        for (int from = 0; from < text.length(); from += 8) {
            answer = pots.put(packed(text.substring(from, Math.min(from + 8, text.length()))));
        }
        return answer;
    }
}
