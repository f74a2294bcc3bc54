/** The sentences on texts, and those of the promises 11, 21, 22 and 23: run(), put(), wipe(), fault(). */
final class TextEdges {
    private static final int BAD_VALUE = -2, BAD_TEXT = -3, TOO_MANY = -4, NONE = -6;
    private static final String SIGNS = "0123456789rybtdp+!>:;";
    private static final String[] GOOD = {"r", "p0", "p5;r", "d0:1", "d7:9;p3", "0!", "7!;0!", "0>7:1", "7>0:81",
        "3>4:10;r", "0+1r", "7+81t", "2+9b;r", "1+1r2y3b4t", "1+10r20y30b21t", "1+80y1t;d1:9", "5+7r7t"};
    private final Sentences told;

    TextEdges(Sentences told) {
        this.told = told;
    }

    void all() {
        padHolds();
        grammar();
        numbers();
        kinds();
        faultByFault();
        faultOfShortTexts();
        faultOfSpoiledTexts();
        runDoes();
        runPassesOver();
        runOfPlus();
        runAnswers();
        put();
        putCodes();
        putBits();
        putErrors();
        wipe();
        faultAnswers();
    }

    private void due(String call, long got, long want) {
        told.due(call, got, want);
    }

    private static ThinnedPots typed(String text) {
        ThinnedPots x = new ThinnedPots();
        Checks.type(x, text);
        return x;
    }

    private void fault(String text, int fault) {
        due(text, typed(text).fault(), fault);
    }

    private void padHolds() {
        told.tell("Texts", "The pad is a text of at most 60 characters, works:");
        String sixty = "r;r;r;r;r;r;r;r;r;r;r;r;r;r;r;r;r;r;r;r;r;r;r;r;r;r;r;r;r;p0";
        due("60 characters", typed(sixty).count(10), 60);
        due("30 works of them", typed(sixty).fault(), NONE);
        due("29 are done", typed(sixty).run(), 29);
        due("61 characters", typed(sixty).put(';'), TOO_MANY);
        due("60 characters with a fault at the last", typed(sixty.substring(0, 59) + '6').fault(), 59);
        due("60 characters that end too early", typed(sixty.substring(0, 57) + ";r;").fault(), 60);
    }

    private void grammar() {
        told.tell("Texts", "text = work { \";\" work }; work = pot \"+\" number kind { number kind } | pot \"!\" | pot \">\" "
            + "pot \":\" number | \"d\" pot \":\" digit | \"p\" panel | \"r\": fill() for each kind that is told, thin(), "
            + "pour(), dip(), paint(), rinse().");
        for (String text : GOOD) {
            fault(text, NONE);
        }
        for (String text : GOOD) {
            fault(text + ";", text.length() + 1);
            fault(text + ";;", text.length() + 1);
            fault(";" + text, 0);
            fault(text + ";" + GOOD[0], NONE);
        }
        ThinnedPots x = typed("0+6r3t;0!;0>1:9;d1:3;p2;r;d0:1");
        due("each work", x.run(), 7);
        due("fill() and thin()", x.count(2), 27);
        due("pour()", x.pot(1, 4), 6);
        due("paint()", x.panel(2, 3), 33);
        due("rinse() of nothing", x.count(9), 0);
        due("dip()", x.brush(4), 1);
    }

    private void numbers() {
        told.tell("Texts", "A pot is a digit 0 to 7, a panel a digit 0 to 5, a number 1 to 81, a digit 1 to 9, without "
            + "leading zeros;");
        for (int digit = 0; digit <= 9; digit++) {
            fault(digit + "!", digit <= 7 ? NONE : 0);
            fault("0>" + digit + ":1", digit <= 7 ? NONE : 2);
            fault("d" + digit + ":1", digit <= 7 ? NONE : 1);
            fault("p" + digit, digit <= 5 ? NONE : 1);
            fault("d0:" + digit, digit >= 1 ? NONE : 3);
            fault("d0:1" + digit, 4);
        }
        for (int number = 0; number <= 999; number++) {
            int place = number == 0 ? 0 : number <= 81 ? NONE : number <= 99 || number >= 820 ? 1 : 2;
            fault("0>1:" + number, place == NONE ? NONE : 4 + place);
            fault("0+" + number + "y", place == NONE ? NONE : 2 + place);
            fault("0+1r" + number + "y", place == NONE ? NONE : 4 + place);
            fault("0>1:0" + number, 4);
            fault("0+0" + number + "r", 2);
        }
    }

    private void kinds() {
        told.tell("Texts", "a kind is one of the letters r, y, b, t, in this order, each once at most in a work.");
        for (char letter = '!'; letter <= '~'; letter++) {
            boolean digit = letter >= '0' && letter <= '9';
            fault("0+1" + letter, "rybt".indexOf(letter) >= 0 ? NONE : digit ? 4 : 3);
        }
        String order = "rybt";
        for (int first = 0; first < 4; first++) {
            for (int second = 0; second < 4; second++) {
                String text = "0+1" + order.charAt(first) + "2" + order.charAt(second);
                fault(text, second > first ? NONE : first == 3 ? 4 : 5);
                due("run of " + text, typed(text).run(), second > first ? 1 : BAD_TEXT);
            }
        }
        fault("0+1r1y1r", 7);
        fault("0+1r1b1y", 7);
        fault("0+1r1y1b1t", NONE);
        fault("0+1r;0+1r;0+1y1b", NONE);
        fault("0+1t;0+1r", NONE);
    }

    private void faultByFault() {
        told.tell("Texts", "The fault is the index of the first character that cannot stand at its place when the text is "
            + "read from left to right (also of a digit by which a number would be too great, and of one behind which no "
            + "kind could come); if there is none and the text ends too early (also if it is empty), it is the length of "
            + "the text.");
        fault("x0", 0);
        fault("rx;x", 1);
        fault("r;p6;8", 3);
        fault("0>1:82", 5);
        fault("0>1:810", 6);
        fault("0>1:9;", 6);
        fault("0>1:99", 5);
        fault("0+82r", 3);
        fault("0+811r", 4);
        fault("0+90r", 3);
        fault("0+1t1", 4);
        fault("0+1r2t8", 6);
        fault("0+1t0", 4);
        fault("0+1t;", 5);
        fault("0+1tt", 4);
        fault("", 0);
        for (String text : GOOD) {
            for (int length = 0; length < text.length(); length++) {
                String begun = text.substring(0, length);
                boolean whole = begun.matches("(.*;)?(r|p.|d.:.|.!|.>.:[0-9]+|.\\+([0-9]+[rybt])+)");
                fault(begun, whole ? NONE : length);
            }
        }
    }

    private void faultOfShortTexts() {
        for (int length = 1; length <= 4; length++) {
            int all = (int) Math.pow(SIGNS.length(), length);
            ThinnedPots x = new ThinnedPots();
            for (int code = 0; code < all; code++) {
                StringBuilder text = new StringBuilder();
                for (int left = code, place = 0; place < length; place++) {
                    text.append(SIGNS.charAt(left % SIGNS.length()));
                    left /= SIGNS.length();
                }
                if (code % 100 == 0) {
                    x = new ThinnedPots();
                }
                x.put(Checks.packed(text.toString()));
                if (x.fault() != SlowPots.faultOf(text.toString())) {
                    due(text.toString(), x.fault(), SlowPots.faultOf(text.toString()));
                }
                x.wipe();
            }
        }
    }

    /** Each sign of a good text is once replaced by each other one, once left out, once put in. */
    private void faultOfSpoiledTexts() {
        for (String text : GOOD) {
            for (int place = 0; place <= text.length(); place++) {
                String before = text.substring(0, place);
                String behind = text.substring(place);
                for (char sign = '!'; sign <= '~'; sign++) {
                    faultAsBySlowPots(before + sign + behind);
                    if (place < text.length()) {
                        faultAsBySlowPots(before + sign + behind.substring(1));
                    }
                }
                if (place < text.length()) {
                    faultAsBySlowPots(before + behind.substring(1));
                }
            }
        }
    }

    private void faultAsBySlowPots(String text) {
        int fault = SlowPots.faultOf(text);
        fault(text, fault);
        due("run of " + text, typed(text).run() == BAD_TEXT ? 1 : 0, fault == NONE ? 0 : 1);
    }

    private void runDoes() {
        told.tell("11", "Does the works of the pad, one after the other;");
        ThinnedPots x = typed("0+3r;0!;0+3y;d0:4;p0;r");
        x.run();
        told.same("thinned ahead of y", Paints.held(x, 0), Paints.drops(2, 2, 0, 4));
        due("painted ahead of the rinsing", x.panel(0, 8), 1);
        due("rinsed behind the painting", x.count(5), 1);
        x = typed("r;d0:1;0>1:1;0!;0+1r");
        due("the other way round nothing can be done", x.run(), 2);
        due("but r and +", x.count(3), 1);
    }

    private void runPassesOver() {
        told.tell("11", "one for which its method would return an error is passed over (of \"+\" each kind by itself).");
        String[] refused = {"0!", "1!", "2!", "0>1:1", "0>0:1", "1>1:1", "0>2:1", "1>0:29", "2>1:54", "3>2:1", "d0:1",
            "d3:9", "d1:9", "p0", "2+1r1t"};
        for (String work : refused) {
            ThinnedPots x = Paints.filled(1, 27, 0, 0, 2);
            Paints.fillPot(x, 2, 40, 41, 0, 0);
            x.fill(3, 3, 8);
            x.dip(1, 1);
            String before = Paints.answers(x);
            Checks.type(x, work);
            due(work, x.run(), 0);
            told.same("nothing changes by " + work, Paints.answers(x), before);
            Checks.type(x, "5+1t;" + work + ";6+1t");
            due("those beside " + work, x.run(), 2);
            due("the one ahead", x.pot(5, 4), 1);
            due("the one behind", x.pot(6, 4), 1);
        }
    }

    private void runOfPlus() {
        told.tell("11", "Returns how many works are done, one of \"+\" if any of its kinds is put in;");
        ThinnedPots x = Paints.filled(0, 70, 0, 0, 0);
        Checks.type(x, "0+12r8y4b3t");
        due("y and t fit", x.run(), 1);
        told.same("y and t", Paints.held(x, 0), Paints.drops(70, 8, 0, 3));
        Checks.type(x, "0+1r1y1b1t");
        due("no kind fits", x.run(), 0);
        told.same("as it was", Paints.held(x, 0), Paints.drops(70, 8, 0, 3));
        x.empty(0);
        Checks.type(x, "0+81r81y;1+1r81y;2+1r80y1b1t;3+1r2y3b4t;0+1b");
        due("a work is one, however many kinds it puts in", x.run(), 4);
        told.same("only the first fits", Paints.held(x, 1), Paints.drops(1, 0, 0, 0));
        told.same("the first two fit", Paints.held(x, 2), Paints.drops(1, 80, 0, 0));
        told.same("all fit", Paints.held(x, 3), Paints.drops(1, 2, 3, 4));
        Checks.type(x, "p0;p1");
        due("none", x.run(), 0);
        Checks.type(x, "r;7+3t;d7:3;p5");
        due("also one whose method returns 0", x.run(), 4);
        due("it was at a distance of 0", x.panel(5, 6), 0);
    }

    private void runAnswers() {
        told.tell("11", "The pad is emptied.");
        ThinnedPots x = typed("r;r");
        x.run();
        due("length", x.count(10), 0);
        Checks.type(x, "p0");
        x.run();
        due("also if no work was done", x.count(10), 0);
        Checks.type(x, "!");
        due("nothing of it is left", x.fault(), 0);
        told.tell("11", "BAD_TEXT if the pad has a fault.");
        x = new ThinnedPots();
        due("empty", x.run(), BAD_TEXT);
        for (String text : new String[] {"r;", "r;8", "0+3r;0+1", "0+3r;0>1:82", "0+3t1r"}) {
            x = typed(text);
            due(text, x.run(), BAD_TEXT);
            due("the pad is as it was", x.count(10), text.length());
            due("nothing was done", x.count(2), 0);
            due("nothing to undo", x.count(11), 0);
        }
    }

    private void put() {
        told.tell("21", "Appends characters to the pad. They are given as a number: its lowest 8 bits are the last "
            + "character, the next 8 bits the one before, and so on;");
        ThinnedPots x = new ThinnedPots();
        x.put('2' << 24 | '+' << 16 | '4' << 8 | '1');
        x.put('b');
        due("2+41b", x.run(), 1);
        due("41, not 14", x.pot(2, 2), 41);
        told.tell("21", "`characters`: 1 to 8 characters");
        String eight = "d0:1;p0;";
        for (int many = 1; many <= 8; many++) {
            x = new ThinnedPots();
            due(many + " characters", x.put(Checks.packed(eight.substring(0, many))), many);
            due("none", x.put(0), BAD_VALUE);
        }
        told.tell("21", "Returns the length of the pad then;");
        x = new ThinnedPots();
        for (int length = 1; length <= 60; length++) {
            due("length", x.put('~'), length);
        }
        due("full", x.count(10), 60);
    }

    private void putCodes() {
        told.tell("21", "BAD_VALUE if there is no character, a code is not 33 to 126, or a bit above 8 bits that are 0 is "
            + "not 0;");
        due("no character", new ThinnedPots().put(0L), BAD_VALUE);
        for (int many = 1; many <= 8; many++) {
            for (int place = 0; place < many; place++) {
                long others = Checks.packed("aaaaaaaa".substring(0, many)) & ~(255L << 8 * place);
                for (long code = 0; code < 256; code++) {
                    boolean good = code >= 33 && code <= 126;
                    // Without its first character it is a shorter text, if any is left.
                    boolean shorter = code == 0 && place == many - 1 && many > 1;
                    long answer = good ? many : shorter ? many - 1 : BAD_VALUE;
                    due(many + " with " + code + " at " + place, new ThinnedPots().put(others | code << 8 * place), answer);
                }
            }
        }
    }

    private void putBits() {
        told.tell("21", "8 bits that are 0 mean that there are no more characters, and everything above them has to be 0, "
            + "too");
        for (int many = 0; many <= 6; many++) {
            long text = Checks.packed("zzzzzz".substring(0, many));
            for (int bit = 8 * many + 8; bit < 64; bit++) {
                due("bit " + bit + " above " + many, new ThinnedPots().put(text | 1L << bit), BAD_VALUE);
                due("all from bit " + bit + " above " + many, new ThinnedPots().put(text | -1L << bit), BAD_VALUE);
            }
            due("all 0 above " + many, new ThinnedPots().put(text), many == 0 ? BAD_VALUE : many);
        }
        due("a character above them", new ThinnedPots().put('r' << 16 | ';'), BAD_VALUE);
        due("the least number", new ThinnedPots().put(Long.MIN_VALUE), BAD_VALUE);
        due("the greatest number", new ThinnedPots().put(Long.MAX_VALUE), BAD_VALUE);
        due("all bits", new ThinnedPots().put(-1L), BAD_VALUE);
        due("all bits of an int", new ThinnedPots().put((int) Checks.packed("zzzz") | 1 << 31), BAD_VALUE);
    }

    private void putErrors() {
        told.tell("21", "TOO_MANY if the pad would be longer than 60.");
        for (int many = 1; many <= 8; many++) {
            String more = "yyyyyyyy".substring(0, many);
            for (int length = 52; length <= 60; length++) {
                ThinnedPots x = typed("yyyyyyyyyyyyyyyyyyyyyyyyyyyyyyyyyyyyyyyyyyyyyyyyyyyyyyyyyyyy".substring(0, length));
                boolean fits = length + many <= 60;
                due(many + " behind " + length, x.put(Checks.packed(more)), fits ? length + many : TOO_MANY);
                due("length", x.count(10), fits ? length + many : length);
            }
        }
    }

    private void wipe() {
        told.tell("22", "Empties the pad, and returns the length that it had.");
        due("none", new ThinnedPots().wipe(), 0);
        for (int length = 1; length <= 60; length++) {
            ThinnedPots x = new ThinnedPots();
            for (int at = 0; at < length; at++) {
                x.put('p');
            }
            due("length", x.wipe(), length);
            due("empty", x.count(10), 0);
            due("empty", x.fault(), 0);
            due("none more", x.wipe(), 0);
            due("there is room again", x.put(Checks.packed("d0:1;r")), 6);
            due("for another text", x.fault(), NONE);
        }
    }

    private void faultAnswers() {
        told.tell("23", "Returns the fault of the pad, NONE if there is none.");
        due("empty", new ThinnedPots().fault(), 0);
        ThinnedPots x = new ThinnedPots();
        String text = "0+1r;d0:1;x";
        int[] faults = {1, 2, 3, NONE, 5, 6, 7, 8, NONE, 10, 10};
        for (int at = 0; at < text.length(); at++) {
            x.put(text.charAt(at));
            due("of the first " + (at + 1), x.fault(), faults[at]);
            due("the same again", x.fault(), faults[at]);
        }
        due("it stays", x.put('r'), 12);
        due("at its place", x.fault(), 10);
    }
}
