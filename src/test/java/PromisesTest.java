/** Each promise of the document by its number: what is usual, the edges that it names, what is wrong. */
public final class PromisesTest {
    private static final int NONE = TurnShifts.NONE;
    private static final int HIDDEN = TurnShifts.HIDDEN;
    private static final String SMALL = "width 6;guard 0;stages 5";
    private static final String FINE = "width 22;guard 4;stages 24;near";

    private PromisesTest() {
    }

    public static void main(String[] args) {
        newObject();
        tape();
        unitFaults();
        orderFaults();
        unit();
        rule();
        constants();
        tables();
        values();
        off();
        jobs();
        orders();
        drop();
        links();
        clocks();
        folds();
        hold();
        told();
        results();
        allOver();
        finestAndApart();
        sweep();
        image();
        status();
        most();
        Check.end();
    }

    private static void same(String what, long got, long want) {
        Check.same(what, got, want);
    }

    /** Promise 1, and what each call answers without a unit. */
    private static void newObject() {
        TurnShifts x = new TurnShifts();
        same("1 rule", x.rule(0), NONE);
        same("1 count", x.count(0), 0);
        same("1 constant", x.constant(0), NONE);
        same("1 stage", x.stage(0, 0, 0), NONE);
        same("1 mode", x.mode(0, 0), NONE);
        same("1 digit", x.digit(0, 0), HIDDEN);
        same("1 takenOut", x.takenOut(0, 0), HIDDEN);
        same("1 value", x.value(0, 0, 0, 0, 0), HIDDEN);
        same("1 off", x.off(0), NONE);
        same("1 linked", x.linked(0, 0), NONE);
        Check.noSuch("1 told", x, 0, 0);
        same("1 result", x.result(0, 0), HIDDEN);
        same("1 trace", x.trace(0, 0, 0), Long.MIN_VALUE);
        same("1 signs", x.signs(0), NONE);
        same("1 register", x.register(0), NONE);
        same("1 place", x.place(0), NONE);
        same("1 allOver", x.allOver(), NONE);
        same("1 finest", x.finest(0, 0, 0, 0, 0), HIDDEN);
        same("1 apart", x.apart(0, 0, 0, 0, 0), HIDDEN);
        same("1 fewest", x.fewest(0, 1000), NONE);
        same("1 sweep", x.sweep(0, 0, 0, 1, 3), Long.MIN_VALUE);
        same("1 image", x.image(), NONE);
        same("1 back", x.back(), NONE);
        same("1 waits", x.waits(-1), NONE);
        same("1 most", x.most(3), NONE);
        for (int what = 0; what < 4; what++) {
            same("1 status", x.status(what), 0);
        }
    }

    /** Promises 2, 3, 37. */
    private static void tape() {
        TurnShifts x = new TurnShifts();
        same("2 zeros are left out", x.feed(0, 0x61000062, 0, 0x00630000, 0), 3);
        same("2 highest first", x.fault(0), 0);
        same("2 nothing", x.feed(0, 0, 0, 0, 0), 3);
        Check.yes("3 end", x.end(3));
        Check.no("3 beyond", x.end(4));
        Check.no("3 below", x.end(-1));
        Check.no("3 far beyond", x.end(Integer.MAX_VALUE));
        same("3 stays", x.count(0), 3);
        Check.yes("3 empty", x.end(0));
        int all = 0x20202020;
        for (int i = 1; i <= 19; i++) {
            same("2 twenty each", x.feed(all, all, all, all, all), 20 * i);
        }
        same("2 bytes above 127 are bytes", x.feed(-1, -1, -1, -1, 0xff), 397);
        same("2 more than 400", x.feed(all, 0, 0, 0, 0), NONE);
        same("2 without these", x.count(0), 397);
        same("2 400", x.feed(0x20, 0x20, 0x20, 0, 0), 400);
        same("2 401", x.feed(0, 0, 0, 0, 0x20), NONE);
        same("2 none more", x.feed(0, 0, 0, 0, 0), 400);
        same("37 others", x.count(1), NONE);
        same("37 below", x.count(-1), NONE);
        same("37 bytes", x.count(0), 400);
    }

    /** Promise 4 for units. */
    private static void unitFaults() {
        Object[][] all = {
            {"", 0}, {"   ", 3}, {"width", 5}, {"width ", 6}, {"width 6", 7}, {"width 6 ", 8}, {"stages 5;", 9},
            {"width 6;stages 5", NONE}, {"stages 24;width 22", NONE}, {"width 06;stages 05;guard 00", NONE},
            {"width 6;stages 5;guard 4;pipe;near", NONE}, {"near;fold 12;width 6;stages 5", NONE},
            {"near;pipe;width 6;stages 5", NONE}, {"  near ; fold12 ;width 6 ;stages 5  ", NONE},
            {"width 5;stages 5", 6}, {"width 23;stages 5", 6}, {"width 123;stages 5", 6}, {"width 6;stages 4", 15},
            {"width 6;stages 25", 15}, {"width 6;stages 5;guard 5", 23}, {"width 6;stages 5;fold 0", 22},
            {"width 6;stages 5;fold 13", 22}, {"width 6;stages 5;fold 1", NONE},
            {"width 6;width 6", 8}, {"guard 1;guard 1", 8}, {"stages 5;stages 5", 9}, {"pipe;pipe", 5},
            {"fold 1;fold 1", 7}, {"near;near", 5}, {"pipe;fold 1", 5}, {"fold 1;pipe", 7},
            {"widths 6", 0}, {"widt", 0}, {"wi dth 6", 0}, {"Width 6", 0}, {"6", 0}, {";", 0}, {";width 6", 0},
            {"width;6", 5}, {"width -6", 6}, {"width 6 6", 8}, {"width 6 stages 5", 8}, {"width 6;;stages 5", 8},
            {"width 6;stages 5;", 17}, {"width 6;stages 5; ", 18}, {"width 6;stages 5 x", 17},
            {"width 6;stages 5;near 1", 22}, {"width 6\t;stages 5", 7}, {"near;width 6", 12},
            {"width 006;stages 5", 6}, {"xidth 6", 0}, {"nearz;width 6", 0}, {"width 6;stages 5" + (char) 233, 16}, {"width 6;stages 5 near", 17}, {"width width", 6},
        };
        for (Object[] row : all) {
            same("4 unit \"" + row[0] + "\"", Check.unitFault((String) row[0]), (Integer) row[1]);
        }
        TurnShifts x = new TurnShifts();
        Check.tape(x, "width 6;stages 5;near");
        x.end(7);
        same("4 nothing behind the end is read", x.fault(0), 7);
        x.end(5);
        same("4 nothing behind the end is read", x.fault(0), 5);
        Check.tape(x, " ".repeat(395) + "width");
        same("4 400 bytes", x.fault(0), 400);
        Check.tape(x, " ".repeat(393) + "width 6");
        same("4 400 bytes", x.fault(0), 400);
        Check.tape(x, " ".repeat(384) + "width 6;stages 5");
        same("4 400 bytes", x.fault(0), NONE);
        same("4 another what", x.fault(2), -2);
        same("4 another what", x.fault(-1), -2);
    }

    /** Promise 4 for orders. */
    private static void orderFaults() {
        Object[][] all = {
            {"", 0}, {"  ", 2}, {"sine", 4}, {"sine ", 5}, {"sine 5", NONE}, {"sine5", NONE}, {" sine -5 ", NONE},
            {"sine -0", NONE}, {"sine 000000001", NONE}, {"sine 999999999", NONE}, {"sine -999999999", NONE},
            {"sine 1234567890", 5}, {"sine -1234567890", 5}, {"sine - 5", 5}, {"sine -", 5}, {"sine --5", 5},
            {"sine 1;", 7}, {"sine 1; ", 8}, {"sine 1;;", 7}, {"sine 1 1", 7}, {"sine 1-1", 6}, {"sine x", 5},
            {"polar 1", 7}, {"polar 1 2", NONE}, {"polar 1-2", NONE}, {"polar 12", 8}, {"polar 1 2 3", 10},
            {"times 1 2", NONE}, {"over 1 2", NONE}, {"bow 1", NONE}, {"power 1", NONE}, {"log 1", NONE},
            {"root 1", NONE}, {"turn 1 2 3", NONE}, {"turn 1 2", 8}, {"turn 1 2 3 4", 11}, {"turns 1 2 3", 0},
            {"Sine 1", 0}, {"xine 1", 0}, {"sinez 1", 0}, {"1", 0}, {"sine1;sine@0", NONE}, {"sine1;sine@0'", NONE}, {"sine1;sine@00'", NONE},
            {"sine1;sine @000", 11}, {"sine1;sine @1", 11}, {"sine1;sine @", 11}, {"sine1;sine @ 0", 11},
            {"sine1;sine @0 '", 14}, {"sine1;sine @0''", 14}, {"sine1;sine @'", 11}, {"sine1;sine @-0", 11},
            {"sine @0", 5}, {"sine1;polar@0@0", NONE}, {"sine1;polar@0'@0'", NONE}, {"sine1;polar@0 1;log@1", NONE},
            {"sine1;polar@0 1;log@2", 19}, {"sine 1,sine 2", 6}, {"sine 1" + (char) 255, 6},
        };
        for (Object[] row : all) {
            same("4 orders \"" + row[0] + "\"", Check.ordersFault((String) row[0]), (Integer) row[1]);
        }
        TurnShifts x = new TurnShifts();
        Check.tape(x, "sine 1;sine @0'");
        x.end(6);
        same("4 nothing behind the end is read", x.fault(1), NONE);
        Check.tape(x, " ".repeat(394) + "sine 1");
        same("4 400 bytes", x.fault(1), NONE);
        Check.tape(x, " ".repeat(396) + "sine");
        same("4 400 bytes", x.fault(1), 400);
        Check.tape(x, " ".repeat(394) + "sine -");
        same("4 400 bytes", x.fault(1), 399);
        Check.tape(x, "sine1" + " ".repeat(388) + ";sine@0");
        same("4 400 bytes", x.fault(1), NONE);
        String sixty = "bow1;".repeat(60);
        same("4 sixty lines", Check.ordersFault(sixty.substring(0, 299)), NONE);
        same("4 sixty lines and ;", Check.ordersFault(sixty), 300);
        same("4 the 61st at its word", Check.ordersFault(sixty + " bow1"), 301);
        same("4 a 61st word that is none", Check.ordersFault(sixty + "x"), 300);
        same("4 @ of two digits", Check.ordersFault("bow1;".repeat(59) + "bow@58"), NONE);
        same("4 @ of its own line", Check.ordersFault("bow1;".repeat(59) + "bow@59"), 298);
    }

    /** Promise 5. */
    private static void unit() {
        TurnShifts x = new TurnShifts();
        same("5 nothing told", x.unit(), NONE);
        Check.tape(x, "width 6;stages 24;fold 3;near");
        same("5 its stages", x.unit(), 24);
        same("5 the tape is empty", x.count(0), 0);
        same("5 guard without", x.rule(1), 2);
        x.job(0, 0, 0, 0);
        x.job(9, 0, 0, 0);
        x.clock(3);
        x.hold(true);
        x.image();
        Check.tape(x, "width 7");
        same("5 a fault", x.unit(), NONE);
        same("5 the tape stays", x.count(0), 7);
        same("5 the unit stays", x.rule(0), 6);
        same("5 the jobs stay", x.rule(6), 1);
        same("5 the image stays", x.back(), 3);
        Check.more(x, ";stages 5");
        same("5 a new one", x.unit(), 5);
        int[] fresh = {7, 2, 5, 5, 0, 0, 0, 0, 0, 0, 0, 0};
        for (int what = 0; what < fresh.length; what++) {
            same("5 rule " + what, x.rule(what), fresh[what]);
        }
        same("5 status stays", x.status(0), 1);
        same("33 no image of this unit", x.back(), NONE);
        Check.noSuch("5 no jobs", x, 0, 0);
    }

    /** Promise 6. */
    private static void rule() {
        TurnShifts x = Check.unit("fold 12;width 22;guard 4;stages 5;near");
        int[] first = {22, 4, 5, 12, 1};
        for (int what = 0; what < first.length; what++) {
            same("6 rule " + what, x.rule(what), first[what]);
        }
        x.job(0, 0, 0, 0);
        x.job(6, 1, 0, 0);
        x.job(6, 1, 0, 0);
        x.job(6, 1, 0, 0);
        x.drop(3);
        x.clock(7);
        same("6 clocks", x.rule(5), 7);
        same("6 jobs", x.rule(6), 4);
        same("6 wait", x.rule(7), 0);
        same("6 under way", x.rule(8), 2);
        same("6 done", x.rule(9), 1);
        same("6 held", x.rule(10), 0);
        same("6 failed", x.rule(11), 1);
        same("6 no such", x.rule(12), NONE);
        same("6 no such", x.rule(-1), NONE);
        same("6 pipe", Check.unit(SMALL + ";pipe").rule(3), 5);
        same("6 fold", Check.unit(SMALL + ";fold 1").rule(3), 1);
    }

    /** Promise 7: against the numbers that they stand for. */
    private static void constants() {
        for (int width = 6; width <= 22; width++) {
            for (int guard = 0; guard <= 4; guard++) {
                TurnShifts x = Check.unit("width " + width + ";guard " + guard + ";stages 5");
                double one = 1 << (width + guard);
                same("7 AT(0)", x.constant(2), Math.round(Math.PI / 4 * one));
                same("7 QUARTER", x.constant(0), 2 * Math.round(Math.PI / 4 * one));
                same("7 LN", x.constant(1), Math.round(Math.log(2) * one));
                same("7 no such", x.constant(3), NONE);
                same("7 no such", x.constant(-1), NONE);
            }
        }
    }

    /** Promises 8, 9, 10, 11. */
    private static void tables() {
        TurnShifts x = Check.unit("width 22;guard 4;stages 24");
        double one = 1 << 26;
        int[] hyperbola = {1, 2, 3, 4, 4, 5, 6, 7, 8, 9, 10, 11, 12, 13, 13, 14, 15, 16, 17, 18, 19, 20, 21, 22};
        for (int stage = 0; stage < 24; stage++) {
            double circle = Math.atan(Math.scalb(1.0, -stage)) * one;
            double u = Math.scalb(1.0, -hyperbola[stage]);
            double area = 0.5 * (Math.log1p(u) - Math.log1p(-u)) * one;
            same("8 shift", x.stage(0, stage, 0), stage);
            same("8 shift", x.stage(1, stage, 0), stage);
            same("8 shift", x.stage(2, stage, 0), hyperbola[stage]);
            same("8 angle", x.stage(0, stage, 1), Math.round(circle));
            same("8 angle", x.stage(1, stage, 1), 1 << (26 - stage));
            same("8 angle", x.stage(2, stage, 1), Math.round(area));
        }
        same("8 no word", x.stage(1, 23, 2), 1);
        same("8 a word", x.stage(0, 0, 2), 0);
        int[][] wrong = {{-1, 0, 0}, {3, 0, 0}, {0, -1, 0}, {0, 24, 0}, {0, 0, -1}, {0, 0, 3}};
        for (int[] w : wrong) {
            same("8 no such", x.stage(w[0], w[1], w[2]), NONE);
        }
        same("9 GAIN of the circle", x.mode(0, 0), (int) (1.646760258121 * one));
        same("9 UNDO of the circle", x.mode(0, 1), (1L << 52) / x.mode(0, 0));
        same("9 GAIN of the line", x.mode(1, 0), 1 << 26);
        same("9 first without a word", x.mode(1, 4), 0);
        same("9 no such", x.mode(3, 0), NONE);
        same("9 no such", x.mode(-1, 0), NONE);
        same("9 no such", x.mode(0, 5), NONE);
        same("9 no such", x.mode(0, -1), NONE);
        beyondP();
        digits(x);
        takenOut(x);
    }

    /** Shifts above P: angles of 0 that need a word (one for all of them). */
    private static void beyondP() {
        TurnShifts x = Check.unit("width 6;guard 0;stages 24");
        same("8 line at P", x.stage(1, 6, 1), 1);
        same("8 line at P needs no word", x.stage(1, 6, 2), 1);
        same("8 line above P", x.stage(1, 7, 1), 0);
        same("8 line above P needs a word", x.stage(1, 7, 2), 0);
        same("9 one unlike angle", x.mode(1, 3), 1);
        same("9 the last one needs a word", x.mode(1, 4), 24);
        same("8 circle above P", x.stage(0, 7, 1), 0);
        same("9 50, 30 and 0", x.mode(0, 3), 3);
        same("9 35, 1 (above P) and 0", x.mode(2, 3), 3);
    }

    private static void digits(TurnShifts x) {
        for (int mode = 0; mode < 3; mode++) {
            long sum = 0;
            int used = 0;
            for (int j = 0; j < 32; j++) {
                int digit = x.digit(mode, j);
                sum += (long) digit << j;
                used += digit == 0 ? 0 : 1;
                Check.yes("10 a digit", digit >= -1 && digit <= 1);
                Check.yes("10 not side by side", j == 0 || digit == 0 || x.digit(mode, j - 1) == 0);
            }
            same("10 all together", sum, x.mode(mode, 1));
            same("9 digits", x.mode(mode, 2), used);
        }
        same("10 no such", x.digit(0, 32), HIDDEN);
        same("10 no such", x.digit(0, -1), HIDDEN);
        same("10 no such", x.digit(3, 0), HIDDEN);
        same("10 no such", x.digit(-1, 0), HIDDEN);
    }

    private static void takenOut(TurnShifts x) {
        int most = 1 << 29;
        same("11 line", x.takenOut(1, most), most);
        same("11 line", x.takenOut(1, -most), -most);
        same("11 beyond", x.takenOut(1, most + 1), HIDDEN);
        same("11 beyond", x.takenOut(1, -most - 1), HIDDEN);
        same("11 beyond", x.takenOut(1, Integer.MIN_VALUE), HIDDEN);
        same("11 no such", x.takenOut(3, 1), HIDDEN);
        same("11 no such", x.takenOut(-1, 1), HIDDEN);
        same("11 one", x.takenOut(0, 1 << 26), x.mode(0, 1));
        same("11 one", x.takenOut(2, 1 << 26), x.mode(2, 1));
        TurnShifts small = Check.unit(SMALL);
        // 39 is 32 and 8 less 1: of -1 the parts are [-1 / 2], [-1 / 8], [-1 / 64].
        same("11 shifts go down", small.takenOut(0, -1), -1 - 1 + 1);
        TurnShifts near = Check.unit(SMALL + ";near");
        same("11 near", near.takenOut(0, -1), 0);
        same("11 near", near.takenOut(0, 1), 1);
    }

    /** Promise 12: bounds, and how near the results come to what they stand for. */
    private static void values() {
        double one = 1 << 22;
        for (double a = -31.9; a < 32; a += 1.37) {
            TurnShifts x = Check.unit(FINE);
            int v = (int) (a * one);
            near("12 SINE", x.value(0, v, 0, 0, 0), Math.cos(v / one) * one, 60);
            near("12 SINE", x.value(0, v, 0, 0, 1), Math.sin(v / one) * one, 60);
            int b = (int) ((a * 1.3 - 2) / 2 * one);
            near("12 POLAR", x.value(1, v, b, 0, 0), Math.hypot(v, b), 200);
            near("12 POLAR", x.value(1, v, b, 0, 1), Math.atan2(b, v) * one, 60);
            int h = v / 2;
            int k = b / 3 + 7;
            near("12 TIMES", x.value(2, h, k, 0, 0), h / one * k, 400);
            near("12 OVER", x.value(3, h, k, 0, 0), (double) h / k * one, 400);
            near("12 BOW", x.value(4, v / 32, 0, 0, 0), Math.cosh(v / 32 / one) * one, 60);
            near("12 BOW", x.value(4, v / 32, 0, 0, 1), Math.sinh(v / 32 / one) * one, 60);
            near("12 POWER", x.value(5, v / 8, 0, 0, 0), Math.exp(v / 8 / one) * one, 6000);
            near("12 LOG", x.value(6, Math.abs(v), 0, 0, 0), Math.log(Math.abs(v) / one) * one, 60);
            near("12 ROOT", x.value(7, Math.abs(v), 0, 0, 0), Math.sqrt(Math.abs(v) / one) * one, 60);
            near("12 TURN", x.value(8, h, k, v, 0), h * Math.cos(v / one) - k * Math.sin(v / one), 1000);
            near("12 TURN", x.value(8, h, k, v, 1), h * Math.sin(v / one) + k * Math.cos(v / one), 1000);
        }
        TurnShifts x = Check.unit(FINE);
        for (int kind = 2; kind < 8; kind++) {
            same("12 no RESULT 1", x.value(kind, 5, 7, 0, 1), kind == 4 ? x.value(4, 5, 0, 0, 1) : 0);
        }
        valueBounds();
    }

    private static void near(String what, long got, double want, double atMost) {
        if (Math.abs(got - want) > atMost) {
            same(what + " (so near at the most: " + atMost + ")", got, Math.round(want));
        }
    }

    private static void valueBounds() {
        TurnShifts x = Check.unit("width 8;guard 1;stages 9");
        int one = 256;
        int[][] within = {
            {0, 32 * one, 0, 0}, {0, -32 * one, -99999, 99999}, {1, 32 * one, -32 * one, 0}, {1, 0, 1, 0}, {1, -1, 0, 0},
            {2, 16 * one, 16 * one, 0}, {2, -16 * one, -16 * one, 0}, {3, 64, 1, 0}, {3, -64, -1, 0}, {3, 16 * one, 64, 0},
            {4, one, 0, 0}, {4, -one, 0, 0}, {5, 4 * one, 0, 0}, {5, -4 * one, 0, 0}, {6, 1, -1, -1}, {6, 32 * one, 0, 0},
            {7, 1, 0, 0}, {7, 32 * one, 0, 0}, {8, 16 * one, -16 * one, 32 * one}, {8, 0, 0, 0}, {3, 0, -1, 0},
        };
        int[][] beyond = {
            {0, 32 * one + 1, 0, 0}, {0, -32 * one - 1, 0, 0}, {1, 0, 0, 0}, {1, 32 * one + 1, 0, 0},
            {1, 0, -32 * one - 1, 0}, {2, 16 * one + 1, 0, 0}, {2, 0, -16 * one - 1, 0}, {3, 1, 0, 0}, {3, 65, 1, 0},
            {3, 65, -1, 0}, {3, 16 * one + 1, 999, 0}, {3, 0, 16 * one + 1, 0}, {4, one + 1, 0, 0}, {4, -one - 1, 0, 0},
            {5, 4 * one + 1, 0, 0}, {5, -4 * one - 1, 0, 0}, {6, 0, 0, 0}, {6, -1, 0, 0}, {6, 32 * one + 1, 0, 0},
            {7, 0, 0, 0}, {7, -1, 0, 0}, {7, 32 * one + 1, 0, 0}, {8, 16 * one + 1, 0, 0}, {8, 0, -16 * one - 1, 0},
            {8, 0, 0, 32 * one + 1}, {8, 0, 0, Integer.MIN_VALUE}, {9, 1, 1, 1}, {-1, 1, 1, 1},
        };
        for (int[] w : within) {
            Check.yes("12 within: " + w[0] + " " + w[1] + " " + w[2], x.value(w[0], w[1], w[2], w[3], 0) != HIDDEN);
            Check.yes("28 within", x.finest(w[0], w[1], w[2], w[3], 0) != HIDDEN);
            Check.yes("14 within", x.job(w[0], w[1], w[2], w[3]) != NONE);
        }
        for (int[] w : beyond) {
            same("12 beyond: " + w[0] + " " + w[1] + " " + w[2], x.value(w[0], w[1], w[2], w[3], 0), HIDDEN);
            same("28 beyond", x.finest(w[0], w[1], w[2], w[3], 0), HIDDEN);
            same("29 beyond", x.apart(w[0], w[1], w[2], w[3], 0), HIDDEN);
            same("14 beyond", x.job(w[0], w[1], w[2], w[3]), NONE);
        }
        same("14 out of bounds", x.status(1), beyond.length - 2);
        same("14 no such kind", x.status(0), 2);
        same("12 no such i", x.value(0, 0, 0, 0, 2), HIDDEN);
        same("12 no such i", x.value(0, 0, 0, 0, -1), HIDDEN);
        same("28 no such i", x.finest(0, 0, 0, 0, 2), HIDDEN);
        same("29 no such i", x.apart(0, 0, 0, 0, -1), HIDDEN);
    }

    /** Promises 13 and 30. */
    private static void off() {
        TurnShifts x = Check.unit("width 8;guard 2;stages 10");
        // W is AT(9), TH(9) by 2 to the 10: 2 both.
        same("13 SINE", x.off(0), (2 + 40 + 32) / 4 + 2);
        same("13 LOG", x.off(6), (4 + 80 + 32) / 4 + 2);
        for (int kind = -1; kind < 11; kind++) {
            if (kind != 0 && kind != 6) {
                same("13 none", x.off(kind), NONE);
                same("30 no such kind", x.fewest(kind, 100000), NONE);
            }
        }
        // OFF falls as W does, then rises by the stages: 64, 32, 16, 8, 4, .. and 4 each.
        same("30 the fewest", x.fewest(0, (64 + 20 + 32) / 4 + 2), 5);
        same("30 one less", x.fewest(0, (64 + 20 + 32) / 4 + 1), 6);
        same("30 the least of all", x.fewest(0, (8 + 32 + 32) / 4 + 2), 8);
        same("30 none", x.fewest(0, (8 + 32 + 32) / 4 + 1), NONE);
        same("30 none", x.fewest(6, 0), NONE);
        same("30 none", x.fewest(6, Integer.MIN_VALUE), NONE);
        same("30 all", x.fewest(6, Integer.MAX_VALUE), 5);
        // W is TH(22), TH(21) by 2 to the 26: 16 with 24 stages, 32 with 23.
        TurnShifts wide = Check.unit("width 22;guard 4;stages 5");
        same("30 as many as there can be", wide.fewest(6, (32 + 192 + 32) / 16 + 2), 24);
        TurnShifts other = Check.unit("width 8;guard 2;stages 24;fold 2");
        same("30 the unit's own stages don't matter", other.fewest(0, (64 + 20 + 32) / 4 + 1), 6);
    }

    /** Promise 14. */
    private static void jobs() {
        TurnShifts x = Check.unit(SMALL);
        for (int job = 0; job < 60; job++) {
            same("14 its number", x.job(job % 9, 1, 1, 1), job);
        }
        same("14 there are 60", x.job(0, 0, 0, 0), NONE);
        same("14 status 2", x.status(2), 1);
        same("14 out of bounds first", x.job(0, 99999, 0, 0), NONE);
        same("14 status 1", x.status(1), 1);
        same("14 no such kind first", x.job(9, 99999, 0, 0), NONE);
        same("14 no such kind first", x.job(-1, 99999, 0, 0), NONE);
        same("14 status 0", x.status(0), 2);
        same("14 status 2", x.status(2), 1);
        same("34 all wait", x.waits(NONE), 60);
        same("34 the last", x.waits(59), 59);
        same("34 no such", x.waits(60), NONE);
        same("34 no such", x.waits(-2), NONE);
        same("34 no such", x.waits(Integer.MIN_VALUE), NONE);
    }

    /** Promise 15. */
    private static void orders() {
        TurnShifts x = new TurnShifts();
        Check.tape(x, "sine 1");
        same("15 no unit", x.orders(), NONE);
        same("15 status 0", x.status(0), 1);
        same("15 the tape stays", x.count(0), 6);
        x = Check.unit(SMALL);
        x.job(0, 1, 0, 0);
        Check.tape(x, "turn 1 -2 3;polar @0' 5;over @1@1'; log 64");
        same("15 lines", x.orders(), 4);
        same("15 the tape is empty", x.count(0), 0);
        int[][] due = {{8, 1, -2, 3, NONE, NONE, NONE}, {1, 0, 5, 0, 3, NONE, NONE}, {3, 0, 0, 0, 4, 5, NONE},
            {6, 64, 0, 0, NONE, NONE, NONE}};
        for (int line = 0; line < 4; line++) {
            for (int what = 0; what < 4; what++) {
                same("15 told", x.told(line + 1, what), due[line][what]);
            }
            for (int what = 0; what < 3; what++) {
                same("15 linked", x.linked(line + 1, what), due[line][4 + what]);
            }
        }
        Check.tape(x, "sine 1;log 0");
        same("15 out of bounds", x.orders(), NONE);
        same("15 none of them", x.rule(6), 5);
        Check.tape(x, "sine 1;log x");
        same("15 a fault", x.orders(), NONE);
        same("15 status 1", x.status(1), 2);
        same("15 the tape stays", x.count(0), 12);
        Check.tape(x, "bow 1;over @0 0");
        same("15 one with @ isn't asked yet", x.orders(), 2);
        Check.tape(x, "bow1;".repeat(53) + "bow1");
        same("15 more than 60", x.orders(), NONE);
        same("15 status 2", x.status(2), 1);
        x.end(264);
        same("15 60", x.orders(), 53);
        Check.tape(x, "log 0");
        same("15 out of bounds first", x.orders(), NONE);
        same("15 status 1", x.status(1), 3);
    }

    /** Promise 16. */
    private static void drop() {
        TurnShifts x = Check.unit(SMALL);
        Check.no("16 no such job", x.drop(0));
        x.job(4, 1, 0, 0);
        x.job(4, 2, 0, 0);
        x.job(4, 3, 0, 0);
        x.link(2, 0, 0, 0);
        Check.no("16 no such job", x.drop(3));
        Check.no("16 no such job", x.drop(-1));
        same("16 status 0", x.status(0), 3);
        Check.no("16 one that waits is linked to it", x.drop(0));
        Check.yes("16 drop", x.drop(1));
        same("16 failed", x.told(1, 4), 3);
        same("16 never brought in", x.told(1, 6), NONE);
        Check.no("16 again", x.drop(1));
        Check.yes("16 the one that is linked", x.drop(2));
        Check.yes("16 now none that waits is linked to it", x.drop(0));
        x.job(4, 1, 0, 0);
        x.clock(1);
        Check.no("16 under way", x.drop(3));
        x.clock(6);
        Check.no("16 done", x.drop(3));
        same("16 status 3", x.status(3), 4);
        same("16 failed ones", x.rule(11), 3);
    }

    /** Promises 17 and 18, and what links do in clocks. */
    private static void links() {
        TurnShifts x = Check.unit(SMALL);
        Check.no("17 no such jobs", x.link(0, 0, 0, 0));
        x.job(2, 64, 64, 0);
        x.job(4, 5, 6, 7);
        x.job(2, 64, 32, 9);
        Check.no("17 no such of", x.link(2, 9, 3, 9));
        Check.no("17 no such of", x.link(2, 0, -1, 0));
        same("17 status 0", x.status(0), 3);
        Check.no("17 no such what", x.link(2, 3, 0, 0));
        Check.no("17 no such what", x.link(2, -1, 0, 0));
        Check.no("17 no such i", x.link(2, 0, 0, 2));
        Check.no("17 no such i", x.link(2, 0, 0, -1));
        Check.no("17 itself", x.link(2, 0, 2, 0));
        Check.no("17 a higher one", x.link(1, 0, 2, 0));
        same("17 status 1", x.status(1), 6);
        Check.yes("17 b", x.link(2, 1, 1, 1));
        Check.yes("17 again", x.link(2, 1, 1, 0));
        Check.yes("17 c, which isn't named", x.link(2, 2, 0, 1));
        same("18 b", x.linked(2, 1), 2);
        same("18 c", x.linked(2, 2), 1);
        same("18 none", x.linked(2, 0), NONE);
        same("18 no such", x.linked(2, 3), NONE);
        same("18 no such", x.linked(2, -1), NONE);
        same("18 no such", x.linked(3, 0), NONE);
        same("18 no such", x.linked(-1, 0), NONE);
        same("17 0 till then", x.told(2, 2), 0);
        same("17 a as it was", x.told(2, 1), 64);
        x.clock(7);
        same("17 still waits", x.told(2, 4), 0);
        x.clock(1);
        same("17 in as the other is done", x.told(2, 6), 8);
        same("17 put in", x.told(2, 2), x.result(1, 0));
        same("17 put in", x.told(2, 3), 0);
        same("18 still linked", x.linked(2, 1), 2);
        Check.no("17 under way", x.link(2, 0, 0, 0));
        same("17 status 3", x.status(3), 1);
        failing();
    }

    private static void failing() {
        TurnShifts x = Check.unit(SMALL);
        x.job(4, 1, 0, 0);
        x.job(2, 64, 64, 0);
        x.job(4, 1, 0, 0);
        x.job(8, 1, 1, 1);
        x.job(4, 1, 0, 0);
        x.drop(0);
        Check.yes("17 linked to one that failed", x.link(2, 0, 0, 0));
        Check.yes("17 linked to one that fails", x.link(3, 0, 2, 0));
        Check.yes("17 and to one that doesn't", x.link(3, 1, 1, 0));
        // Job 2 fails in clock 2, job 3 in clock 7 as job 1 is done; job 4 is brought in in clock 8.
        same("27 two fail", x.allOver(), 8 + 6);
        x.clock(2);
        same("4 fails as it is brought in", x.told(2, 4), 3);
        same("21 the clock of that", x.told(2, 6), 2);
        same("21 never done", x.told(2, 7), NONE);
        same("21 no stage", x.told(2, 5), 0);
        same("24 failed", x.signs(2), NONE);
        same("23 failed", x.trace(2, 0, 0), Long.MIN_VALUE);
        same("4 nobody else comes in this clock", x.told(4, 4), 0);
        x.clock(4);
        same("4 one still under way: it waits", x.told(3, 4), 0);
        x.clock(1);
        same("4 fails, too", x.told(3, 4), 3);
        same("4 in clock 7", x.told(3, 6), 7);
        same("4 what there is is put in", x.told(3, 2), x.result(1, 0));
        same("4 what there isn't is 0", x.told(3, 1), 0);
        x.clock(1);
        same("4 the next one", x.told(4, 6), 8);
        TurnShifts y = Check.unit(SMALL);
        y.job(2, 1024, 1024, 0);
        y.job(4, 1, 0, 0);
        y.link(1, 0, 0, 0);
        y.clock(7);
        same("4 out of bounds as it is brought in", y.told(1, 4), 3);
        same("4 put in all the same", y.told(1, 1), y.result(0, 0));
        same("4 in clock 7", y.told(1, 6), 7);
        same("27 now", y.allOver(), 0);
    }

    /** Promises 19, 25, 26 in a pipe. */
    private static void clocks() {
        TurnShifts x = new TurnShifts();
        same("19 no unit", x.clock(0), NONE);
        same("19 status 0", x.status(0), 1);
        x = Check.unit(SMALL);
        same("19 out of bounds", x.clock(0), NONE);
        same("19 out of bounds", x.clock(101), NONE);
        same("19 out of bounds", x.clock(Integer.MIN_VALUE), NONE);
        same("19 status 1", x.status(1), 3);
        same("19 nobody", x.clock(100), 0);
        same("19 counted", x.rule(5), 100);
        for (int job = 0; job < 8; job++) {
            x.job(job, 1, 2, 3);
        }
        same("19 the pipe fills", x.clock(6), 0);
        for (int stage = 0; stage <= 5; stage++) {
            same("25 ahead of a stage", x.register(stage), 5 - stage);
            same("26 in its place", x.place(stage), stage < 5 ? 5 - stage : NONE);
            same("21 stages gone through", x.told(5 - stage, 5), stage);
        }
        same("25 no such", x.register(6), NONE);
        same("25 no such", x.register(-1), NONE);
        same("26 no such", x.place(-1), NONE);
        same("19 one a clock", x.clock(1), 1);
        same("19 the rest", x.clock(100), 7);
        same("21 done in", x.told(7, 7), 100 + 8 + 6);
        same("25 none", x.register(0), NONE);
    }

    /** A place is taken again by one that comes round. */
    private static void folds() {
        TurnShifts x = Check.unit(SMALL + ";fold 1");
        x.job(0, 0, 0, 0);
        x.job(0, 0, 0, 0);
        same("27 fold 1", x.allOver(), 1 + 5 + 6);
        x.clock(5);
        same("26 ahead of the last stage", x.place(0), 0);
        same("4 waits", x.told(1, 4), 0);
        x.clock(1);
        same("25 behind the last", x.register(5), 0);
        same("26 stands no more", x.place(0), 1);
        same("21 brought in", x.told(1, 6), 6);
        TurnShifts y = Check.unit(SMALL + ";fold 3");
        for (int job = 0; job < 4; job++) {
            y.job(0, 0, 0, 0);
        }
        // In clocks 4, 5, 6 the three come to stage 3, in place 0.
        int[] in = {1, 2, 3, 7};
        y.clock(30);
        for (int job = 0; job < 4; job++) {
            same("4 fold 3", y.told(job, 6), in[job]);
        }
        TurnShifts z = Check.unit(SMALL + ";fold 12");
        z.job(0, 0, 0, 0);
        z.job(0, 0, 0, 0);
        z.clock(5);
        same("26 more places than stages", z.place(4), 0);
        same("26 nobody", z.place(11), NONE);
        same("26 no such", z.place(12), NONE);
        z.clock(1);
        same("26 behind the last stands nowhere", z.place(5), NONE);
    }

    /** Promise 20. */
    private static void hold() {
        TurnShifts x = new TurnShifts();
        Check.no("20 no unit", x.hold(true));
        same("20 status 0", x.status(0), 1);
        x = Check.unit(SMALL);
        Check.no("20 it is so", x.hold(false));
        x.job(0, 0, 0, 0);
        x.clock(2);
        Check.yes("20 held", x.hold(true));
        Check.no("20 it is so", x.hold(true));
        same("20 status 3", x.status(3), 2);
        same("20 nothing is done", x.clock(100), 0);
        same("20 counted", x.rule(5), 102);
        same("20 no stage", x.told(0, 5), 1);
        same("27 were it not held", x.allOver(), 5);
        same("27 it stays held", x.rule(10), 1);
        Check.yes("20 not held", x.hold(false));
        same("20 goes on", x.clock(5), 1);
        same("21 done in", x.told(0, 7), 107);
        same("36 from job() on", x.most(2), 107);
    }

    /** Promise 21. */
    private static void told() {
        TurnShifts x = Check.unit(SMALL);
        int[] mode = {0, 0, 1, 1, 2, 2, 2, 2, 0};
        int[] turning = {1, 0, 1, 0, 1, 1, 0, 0, 1};
        for (int kind = 0; kind < 9; kind++) {
            x.job(kind, 11, 12, 13);
            same("21 KIND", x.told(kind, 0), kind);
            same("21 a", x.told(kind, 1), 11);
            same("21 b", x.told(kind, 2), 12);
            same("21 c", x.told(kind, 3), 13);
            same("21 waits", x.told(kind, 4), 0);
            same("21 stages", x.told(kind, 5), 0);
            same("21 brought in", x.told(kind, 6), NONE);
            same("21 done", x.told(kind, 7), NONE);
            same("21 MODE", x.told(kind, 8), mode[kind]);
            same("21 TURNING", x.told(kind, 9), turning[kind]);
        }
        x.clock(8);
        same("21 done", x.told(0, 4), 2);
        same("21 done in", x.told(0, 7), 7);
        same("21 all stages", x.told(0, 5), 5);
        same("21 under way", x.told(2, 4), 1);
        same("21 brought in", x.told(2, 6), 3);
        Check.noSuch("21 no such what", x, 0, 10);
        Check.noSuch("21 no such what", x, 0, -1);
        Check.noSuch("21 no such job", x, 9, 0);
        Check.noSuch("21 no such job", x, -1, 0);
        Check.noSuch("21 no such job", x, Integer.MAX_VALUE, 0);
    }

    /** Promises 22, 23, 24. */
    private static void results() {
        int[][] all = {{0, 5000, 0, 0}, {1, -300, 400, 0}, {2, 3000, -5000, 0}, {3, 777, -55, 0}, {4, -600, 0, 0},
            {5, -4000, 0, 0}, {6, 7, 0, 0}, {7, 30000, 0, 0}, {8, -1200, 900, 12345}};
        TurnShifts x = withJobs(all);
        same("22 waits", x.result(0, 0), HIDDEN);
        same("23 waits", x.trace(0, 0, 0), Long.MIN_VALUE);
        same("24 waits", x.signs(0), NONE);
        x.clock(1);
        same("23 where it begins", x.trace(0, 0, 0), x.mode(0, 1));
        same("24 no stage yet", x.signs(0), 0);
        x.clock(12);
        same("22 behind the last, not done", x.result(0, 0), HIDDEN);
        same("23 no farther", x.trace(1, 12, 0), Long.MIN_VALUE);
        Check.yes("23 as far as it has come", x.trace(1, 11, 0) != Long.MIN_VALUE);
        x.clock(20);
        for (int job = 0; job < 9; job++) {
            int[] w = all[job];
            same("22 as value()", x.result(job, 0), x.value(w[0], w[1], w[2], w[3], 0));
            same("22 as value()", x.result(job, 1), x.value(w[0], w[1], w[2], w[3], 1));
            TurnShifts again = withJobs(all);
            again.clock(40);
            stagesOf(again, job);
        }
        same("22 no such i", x.result(0, 2), HIDDEN);
        same("22 no such i", x.result(0, -1), HIDDEN);
        same("22 no such job", x.result(9, 0), HIDDEN);
        int[][] wrong = {{9, 0, 0}, {-1, 0, 0}, {0, -1, 0}, {0, 13, 0}, {0, 0, -1}, {0, 0, 3}};
        for (int[] w : wrong) {
            same("23 no such", x.trace(w[0], w[1], w[2]), Long.MIN_VALUE);
        }
        same("24 no such", x.signs(9), NONE);
        same("24 no such", x.signs(-1), NONE);
    }

    private static TurnShifts withJobs(int[][] all) {
        TurnShifts x = Check.unit("width 10;guard 3;stages 12;near");
        for (int[] w : all) {
            x.job(w[0], w[1], w[2], w[3]);
        }
        return x;
    }

    private static void stagesOf(TurnShifts x, int job) {
        int mode = x.told(job, 8);
        for (int stage = 0; stage < 12; stage++) {
            int k = x.stage(mode, stage, 0);
            long half = k == 0 ? 0 : 1L << (k - 1);
            boolean up = x.told(job, 9) == 1 ? x.trace(job, stage, 2) >= 0 : x.trace(job, stage, 1) < 0;
            long d = up ? 1 : -1;
            long moreX = d * ((x.trace(job, stage, 1) + half) >> k) * (mode == 0 ? -1 : mode == 1 ? 0 : 1);
            long moreY = d * ((x.trace(job, stage, 0) + half) >> k);
            same("24 d", x.signs(job) >> stage & 1, up ? 1 : 0);
            same("23 x", x.trace(job, stage + 1, 0), x.trace(job, stage, 0) + moreX);
            same("23 y", x.trace(job, stage + 1, 1), x.trace(job, stage, 1) + moreY);
            same("23 z", x.trace(job, stage + 1, 2), x.trace(job, stage, 2) - d * x.stage(mode, stage, 1));
        }
        Check.yes("24 no bits behind the last", x.signs(job) >> 12 == 0);
    }

    /** Promise 27. */
    private static void allOver() {
        TurnShifts x = Check.unit("width 6;stages 24;fold 1");
        same("27 nobody", x.allOver(), 0);
        Check.tape(x, "bow1;".repeat(59) + "bow1");
        x.orders();
        for (int job = 1; job < 60; job++) {
            x.link(job, 1, job - 1, 1);
        }
        // Each waits for the one ahead (by b, which BOW doesn't name): 25 clocks from one to the next, 25 for the last.
        same("27 one after another", x.allOver(), 1 + 60 * 25);
        same("27 nothing is changed", x.rule(5), 0);
        same("27 nothing is changed", x.rule(7), 60);
        for (int i = 0; i < 15; i++) {
            x.clock(100);
        }
        same("27 one more", x.allOver(), 1);
        x.clock(1);
        same("27 now", x.allOver(), 0);
        same("27 all are done", x.rule(9), 60);
    }

    /** Promises 28 and 29. */
    private static void finestAndApart() {
        TurnShifts best = Check.unit(FINE);
        TurnShifts x = Check.unit("width 9;guard 1;stages 7");
        int[][] all = {{0, 1000, -1, 1 << 30}, {1, -99, -5000, 7}, {2, 8192, -8192, 0}, {3, 50, 30, 0}, {4, 511, 0, 0},
            {5, -2048, 0, 0}, {6, 16384, 0, 0}, {7, 3, 0, 0}, {8, 8192, -8192, -16384}};
        for (int[] w : all) {
            for (int i = 0; i < 2; i++) {
                int due = best.value(w[0], w[1] << 13, w[2] << 13, w[3] << 13, i);
                same("28 the finest unit's", x.finest(w[0], w[1], w[2], w[3], i), due);
                long far = ((long) x.value(w[0], w[1], w[2], w[3], i) << 13) - due;
                same("29 apart", x.apart(w[0], w[1], w[2], w[3], i), far < 0 ? -far : far);
            }
        }
        same("29 the finest itself", best.apart(0, 12345, 0, 0, 0), 0);
    }

    /** Promise 31. */
    private static void sweep() {
        TurnShifts x = Check.unit("width 8;guard 0;stages 6");
        for (int kind : new int[] {0, 4, 5, 6, 7}) {
            x = Check.unit("width 8;guard 0;stages 6");
            long greatest = -1;
            long first = 0;
            int falls = 0;
            int latest = HIDDEN;
            int cannot = 0;
            for (int j = 0; j < 200; j++) {
                int a = 1300 - 9 * j;
                int v = x.value(kind, a, 0, 0, 0);
                if (v == HIDDEN) {
                    cannot++;
                    continue;
                }
                falls += v < latest ? 1 : 0;
                latest = v;
                long apart = x.apart(kind, a, 0, 0, 0);
                if (apart > greatest) {
                    greatest = apart;
                    first = a;
                }
            }
            same("31 the greatest", x.sweep(kind, 1300, -9, 200, 0), greatest);
            same("31 the first with it", x.sweep(kind, 1300, -9, 200, 1), first);
            same("31 falls", x.sweep(kind, 1300, -9, 200, 2), falls);
            same("31 can't be", x.sweep(kind, 1300, -9, 200, 3), cannot);
        }
        x = Check.unit("width 8;guard 0;stages 6");
        same("31 one alone", x.sweep(0, 7, 0, 1, 1), 7);
        same("31 without bounds", x.sweep(0, Integer.MAX_VALUE, Integer.MAX_VALUE, 200, 3), 200);
        same("31 without bounds", x.sweep(0, 1, Integer.MIN_VALUE, 200, 3), 199);
        same("31 none can be", x.sweep(6, 0, -1, 5, 0), Long.MIN_VALUE);
        same("31 none can be", x.sweep(6, 0, -1, 5, 1), Long.MIN_VALUE);
        same("31 none can be", x.sweep(6, 0, -1, 5, 2), 0);
        same("31 none can be", x.sweep(6, 0, -1, 5, 3), 5);
        for (int kind : new int[] {-1, 1, 2, 3, 8, 9}) {
            same("31 no such kind", x.sweep(kind, 1, 1, 1, 3), Long.MIN_VALUE);
        }
        same("31 no such n", x.sweep(0, 1, 1, 0, 3), Long.MIN_VALUE);
        same("31 no such n", x.sweep(0, 1, 1, 201, 3), Long.MIN_VALUE);
        same("31 no such what", x.sweep(0, 1, 1, 1, 4), Long.MIN_VALUE);
        same("31 no such what", x.sweep(0, 1, 1, 1, -1), Long.MIN_VALUE);
    }

    /** Promises 32 and 33. */
    private static void image() {
        TurnShifts x = Check.unit(SMALL);
        same("33 no image", x.back(), NONE);
        x.job(0, 5, 0, 0);
        x.job(4, 5, 0, 0);
        x.link(1, 0, 0, 1);
        x.clock(3);
        x.hold(true);
        same("32 clocks", x.image(), 3);
        x.hold(false);
        x.clock(50);
        x.job(0, 5, 0, 0);
        x.job(9, 5, 0, 0);
        Check.tape(x, "near");
        same("33 clocks", x.back(), 3);
        same("33 held", x.rule(10), 1);
        same("33 jobs", x.rule(6), 2);
        same("33 under way", x.told(0, 5), 2);
        same("33 waits", x.told(1, 4), 0);
        same("33 linked", x.linked(1, 0), 1);
        same("33 not put in", x.told(1, 1), 0);
        same("33 the tape isn't", x.count(0), 4);
        same("33 status isn't", x.status(0), 1);
        x.hold(false);
        same("33 goes on", x.clock(4), 1);
        same("33 again", x.back(), 3);
        same("33 again under way", x.told(0, 4), 1);
        x.hold(false);
        x.clock(20);
        same("32 instead of the one ahead", x.image(), 23);
        x.clock(1);
        same("33 the newer one", x.back(), 23);
        same("33 done", x.rule(9), 2);
    }

    /** Promise 35: of several the first; other calls don't count. */
    private static void status() {
        TurnShifts x = Check.unit(SMALL);
        x.rule(99);
        x.unit();
        x.value(0, 99999, 0, 0, 0);
        x.feed(0, 0, 0, 0, 0);
        x.end(9);
        x.back();
        x.sweep(9, 9, 9, 999, 9);
        for (int what = 0; what < 4; what++) {
            same("35 not counted", x.status(what), 0);
        }
        same("35 no such", x.status(4), NONE);
        same("35 no such", x.status(-1), NONE);
        x.job(4, 1, 0, 0);
        x.job(4, 1, 0, 0);
        x.clock(2);
        x.link(1, 7, 5, 7);
        same("35 0 ahead of 1 and 3", x.status(0), 1);
        x.link(1, 7, 0, 0);
        same("35 1 ahead of 3", x.status(1), 1);
        x.link(1, 0, 0, 0);
        same("35 3", x.status(3), 1);
    }

    /** Promise 36. */
    private static void most() {
        TurnShifts x = Check.unit(SMALL);
        for (int what = 0; what < 4; what++) {
            same("36 0 without", x.most(what), 0);
        }
        same("36 no such", x.most(4), NONE);
        same("36 no such", x.most(-1), NONE);
        x.job(0, 40, 0, 0);
        x.job(1, 40, 30, 0);
        x.job(2, 40, 30, 0);
        x.job(3, 30, 40, 0);
        x.job(6, 40, 0, 0);
        x.clock(6);
        same("36 none is done", x.most(3), 0);
        x.clock(1);
        same("36 one is done", x.most(0), Math.abs(x.trace(0, 5, 2)));
        same("36 three each", x.most(3), 15);
        same("36 told, then done", x.most(2), 7);
        x.clock(10);
        same("36 z", x.most(0), Math.max(Math.abs(x.trace(0, 5, 2)), Math.abs(x.trace(2, 5, 2))));
        long y = Math.max(Math.abs(x.trace(1, 5, 1)), Math.abs(x.trace(3, 5, 1)));
        same("36 y", x.most(1), Math.max(y, Math.abs(x.trace(4, 5, 1))));
        same("36 the longest", x.most(2), 11);
        same("36 of the line two", x.most(3), 3 * 15 + 2 * 10);
    }
}
