import java.math.BigInteger;

/** The bounds that the document names for tables, KINDS and what they answer, sentence by sentence. */
public final class NumberBoundsTest {
    private static final int NONE = TurnShifts.NONE;
    private static final int HIDDEN = TurnShifts.HIDDEN;
    private static final String SMALL = "width 6;guard 0;stages 5";
    private static final String[] WORDS =
        {"sine", "polar", "times", "over", "bow", "power", "log", "root", "turn"};
    private static final int[] NAMES = {1, 2, 2, 2, 1, 1, 1, 1, 3};
    private static final int MIN = Integer.MIN_VALUE;
    private static final int MAX = Integer.MAX_VALUE;

    private NumberBoundsTest() {
    }

    public static void main(String[] args) {
        withoutAUnit();
        constants();
        noSuchTables();
        shiftsOfModes();
        anglesOfTheLine();
        wordsOfAngles();
        tablesOfAllUnits();
        digitsOfUndo();
        shiftsGoDown();
        takenOutToTheBound();
        outOfAllGuards();
        signsAtNull();
        stagesOfKinds();
        boundsOfKinds();
        boundsOfOver();
        noSuchValues();
        whatIsNotAsked();
        noSecondResult();
        quartersBroughtNear();
        powersBroughtNear();
        polarBroughtNear();
        timesBroughtNear();
        overBroughtNear();
        logBroughtNear();
        rootBroughtNear();
        turnBroughtNear();
        quartersPutBack();
        offAndFewest();
        soFarOffAtTheMost();
        finestOfAllUnits();
        sweepBounds();
        sweepsWithoutBounds();
        sweepsThatTie();
        Check.end();
    }

    private static void same(String what, long got, long want) {
        Check.same(what, got, want);
    }

    /** Each call that only asks: what stands for "no UNIT", and that nothing is counted. */
    private static void withoutAUnit() {
        Watch.Calls empty = x -> { };
        Watch.asks("6: no unit", empty, x -> x.rule(0), NONE);
        Watch.asks("6: no unit", empty, x -> x.rule(5), NONE);
        Watch.asks("7: no unit", empty, x -> x.constant(0), NONE);
        Watch.asks("8: no unit", empty, x -> x.stage(0, 0, 0), NONE);
        Watch.asks("9: no unit", empty, x -> x.mode(1, 2), NONE);
        Watch.asks("10: no unit", empty, x -> x.digit(0, 0), HIDDEN);
        Watch.asks("11: no unit", empty, x -> x.takenOut(0, 0), HIDDEN);
        Watch.asks("12: no unit", empty, x -> x.value(0, 0, 0, 0, 0), HIDDEN);
        Watch.asks("13: no unit", empty, x -> x.off(0), NONE);
        Watch.asks("28: no unit", empty, x -> x.finest(0, 0, 0, 0, 0), HIDDEN);
        Watch.asks("29: no unit", empty, x -> x.apart(0, 0, 0, 0, 0), HIDDEN);
        Watch.asks("30: no unit", empty, x -> x.fewest(0, MAX), NONE);
        for (int what = 0; what < 4; what++) {
            int w = what;
            Watch.asks("31: no unit", empty, x -> x.sweep(0, 0, 0, 1, w), Long.MIN_VALUE);
        }
    }

    /** "By 2 to the P: 0 QUARTER, 1 LN, 2 AT(0). NONE: .. no such what." QUARTER is twice the AT(0) that is told. */
    private static void constants() {
        BigInteger quarterPi = new BigInteger("7853981633974483096156608458198757210492");
        BigInteger lnTwo = new BigInteger("6931471805599453094172321214581765680755");
        BigInteger one = BigInteger.TEN.pow(40);
        for (int width = 6; width <= 22; width++) {
            for (int guard = 0; guard <= 4; guard++) {
                TurnShifts x = Check.unit("width " + width + ";stages 5;guard " + guard);
                BigInteger two = BigInteger.ONE.shiftLeft(width + guard + 1);
                long eighth = quarterPi.multiply(two).add(one).divide(one.shiftLeft(1)).longValueExact();
                long ln = lnTwo.multiply(two).add(one).divide(one.shiftLeft(1)).longValueExact();
                same("7: AT(0)", x.constant(2), eighth);
                same("7: QUARTER", x.constant(0), 2 * eighth);
                same("7: LN", x.constant(1), ln);
            }
        }
        TurnShifts x = Check.unit(SMALL);
        for (int what : new int[] {-1, 3, MIN, MAX}) {
            same("7: no such what", x.constant(what), NONE);
        }
    }

    /** "NONE: no such ones.", "HIDDEN: no such ones.": the first and the last that are, on each side. */
    private static void noSuchTables() {
        for (int stages : new int[] {5, 13, 24}) {
            TurnShifts x = Check.unit("width 6;stages " + stages);
            for (int mode = 0; mode < 3; mode++) {
                Check.yes("8: the first stage", x.stage(mode, 0, 1) > 0);
                Check.yes("8: the last stage", x.stage(mode, stages - 1, 1) >= 0);
                Check.yes("8: the last stage", x.stage(mode, stages - 1, 0) >= 4);
                for (int none : new int[] {-1, stages, 24, 72, MIN, MAX}) {
                    same("8: no such stage", x.stage(mode, none, 0), NONE);
                    same("8: no such stage", x.stage(mode, none, 1), NONE);
                }
                for (int none : new int[] {-1, 3, MIN, MAX}) {
                    same("8: no such what", x.stage(mode, 0, none), NONE);
                }
                for (int none : new int[] {-1, 5, MIN, MAX}) {
                    same("9: no such what", x.mode(mode, none), NONE);
                }
                Check.yes("10: j 0", x.digit(mode, 0) != HIDDEN);
                same("10: j 31", x.digit(mode, 31), 0);
                for (int none : new int[] {-1, 32, 33, MIN, MAX}) {
                    same("10: no such j", x.digit(mode, none), HIDDEN);
                }
            }
            for (int none : new int[] {-1, 3, MIN, MAX}) {
                same("8: no such mode", x.stage(none, 0, 0), NONE);
                same("9: no such mode", x.mode(none, 0), NONE);
                same("10: no such mode", x.digit(none, 0), HIDDEN);
                same("11: no such mode", x.takenOut(none, 0), HIDDEN);
            }
        }
    }

    /** "0, 1, 2, ..; of the hyperbola 1, 2, 3, .., but 4 and 13 twice, one behind the other; the first N of these". */
    private static void shiftsOfModes() {
        int[] hyperbola = {1, 2, 3, 4, 4, 5, 6, 7, 8, 9, 10, 11, 12, 13, 13, 14, 15, 16, 17, 18, 19, 20, 21, 22};
        for (int stages = 5; stages <= 24; stages++) {
            TurnShifts x = Check.unit("width 22;stages " + stages);
            for (int stage = 0; stage <= 24; stage++) {
                boolean is = stage < stages;
                same("8: circle", x.stage(0, stage, 0), is ? stage : NONE);
                same("8: line", x.stage(1, stage, 0), is ? stage : NONE);
                same("8: hyperbola", x.stage(2, stage, 0), is ? hyperbola[stage] : NONE);
            }
        }
    }

    /** "of the line 2 to the (P - k), 0 for k above P." */
    private static void anglesOfTheLine() {
        for (int width = 6; width <= 22; width++) {
            for (int guard = 0; guard <= 4; guard++) {
                TurnShifts x = Check.unit("width " + width + ";stages 24;guard " + guard);
                int p = width + guard;
                for (int k = 0; k < 24; k++) {
                    same("8: the line's angle", x.stage(1, k, 1), k > p ? 0 : 1 << (p - k));
                    same("8: needs no word", x.stage(1, k, 2), k > p ? 0 : 1);
                }
                same("9: unlike ones that need a word", x.mode(1, 3), p >= 23 ? 0 : 1);
                same("9: from which on none does", x.mode(1, 4), p >= 23 ? 0 : 24);
                TurnShifts y = Check.unit("width " + width + ";guard " + guard + ";stages " + Math.min(24, p + 1));
                same("9: k is P at the most", y.mode(1, 3), 0);
                same("9: k is P at the most", y.mode(1, 4), 0);
            }
        }
    }

    /** "It needs NO WORD, if it is 2 to the (P - k), k no more than P." and what counts words. */
    private static void wordsOfAngles() {
        TurnShifts x = Check.unit("width 6;guard 0;stages 24");
        // By 2 to the 6: AT is 50, 30, 16, 8, 4, 2, 1 and 0 from 7 on (0.49998); TH(7) is 1 (0.50001), though 7 is above 6.
        int[] circle = {50, 30, 16, 8, 4, 2, 1, 0, 0};
        int[] noWord = {0, 0, 1, 1, 1, 1, 1, 0, 0};
        for (int stage = 0; stage < circle.length; stage++) {
            same("8: AT", x.stage(0, stage, 1), circle[stage]);
            same("8: no word", x.stage(0, stage, 2), noWord[stage]);
        }
        int[] hyperbola = {35, 16, 8, 4, 4, 2, 1, 1, 0, 0};
        int[] none = {0, 1, 1, 1, 1, 1, 1, 0, 0, 0};
        for (int stage = 0; stage < hyperbola.length; stage++) {
            same("8: TH", x.stage(2, stage, 1), hyperbola[stage]);
            same("8: no word", x.stage(2, stage, 2), none[stage]);
        }
        same("9: 50, 30, 0", x.mode(0, 3), 3);
        same("9: 0", x.mode(1, 3), 1);
        same("9: 35, 1, 0", x.mode(2, 3), 3);
        for (int mode = 0; mode < 3; mode++) {
            same("9: N: the last one does", x.mode(mode, 4), 24);
        }
        TurnShifts y = Check.unit("width 6;guard 0;stages 7");
        same("9: 50, 30", y.mode(0, 3), 2);
        same("9: the first from which on none does", y.mode(0, 4), 2);
        same("9: the first of all", y.mode(1, 4), 0);
        same("9: 35", y.mode(2, 3), 1);
        same("9: behind the first", y.mode(2, 4), 1);
        // The shift 4 stands twice in the hyperbola's; with P 26 its angle needs a word, counted once.
        TurnShifts z = Check.unit("width 22;guard 4;stages 5");
        same("8: alike", z.stage(2, 3, 1), z.stage(2, 4, 1));
        same("8: need a word", z.stage(2, 3, 2) + z.stage(2, 4, 2), 0);
        same("9: unlike ones", z.mode(2, 3), 4);
        same("9: the last one does", z.mode(2, 4), 5);
    }

    /** ANGLES, GAIN, UNDO, DIGITS, OFF of each P and N there can be, in unbounded numbers. */
    private static void tablesOfAllUnits() {
        for (int p = 6; p <= 26; p++) {
            int guard = p < 8 ? 0 : Math.max(p - 22, p % 3);
            for (int stages = 5; stages <= 24; stages++) {
                TurnShifts x = Check.unit("width " + (p - guard) + ";guard " + guard + ";stages " + stages);
                Model.Tables due = new Model.Tables(p - guard, guard, stages, stages, false);
                for (int mode = 0; mode < 3; mode++) {
                    same("9: GAIN", x.mode(mode, 0), due.gain(mode).longValueExact());
                    same("9: UNDO", x.mode(mode, 1), due.undo(mode).longValueExact());
                    same("8: the last ANGLE", x.stage(mode, stages - 1, 1), due.angle(mode, stages - 1).longValueExact());
                    same("8: whether it needs no word", x.stage(mode, stages - 1, 2), due.noWord(mode, stages - 1) ? 1 : 0);
                }
                same("8: AT(0)", x.stage(0, 0, 1), x.constant(2));
                same("13: SINE", x.off(0), due.off(0, stages).longValueExact());
                same("13: LOG", x.off(6), due.off(6, stages).longValueExact());
            }
        }
    }

    /** "-1, 0, 1 for each power of 2 (0 on) so that no two side by side aren't 0, and all together are UNDO." */
    private static void digitsOfUndo() {
        for (int p = 6; p <= 26; p++) {
            TurnShifts x = Check.unit("width " + Math.min(p, 22) + ";guard " + Math.max(0, p - 22) + ";stages 24");
            for (int mode = 0; mode < 3; mode++) {
                long sum = 0;
                int used = 0;
                for (int j = 31; j >= 0; j--) {
                    int digit = x.digit(mode, j);
                    Check.yes("10: a digit", digit >= -1 && digit <= 1);
                    Check.yes("10: no two side by side", digit == 0 || j == 31 || x.digit(mode, j + 1) == 0);
                    sum = 2 * sum + digit;
                    used += digit != 0 ? 1 : 0;
                }
                same("10: all together", sum, x.mode(mode, 1));
                same("9: that aren't 0", x.mode(mode, 2), used);
            }
        }
    }

    /** "[v / w]: the greatest whole number that is no more", "with near, k above 0: [(v and ..) / ..]". */
    private static void shiftsGoDown() {
        // UNDO of the circle is 39: 32 and 8 less 1, so shifts by 1, by 3, less one by 6.
        int[][] down = {{0, 0}, {1, 0}, {2, 1}, {7, 3}, {8, 5}, {63, 38}, {64, 39}, {-1, -1}, {-2, -1}, {-3, -2},
            {-8, -4}, {-9, -6}, {-64, -39}, {-65, -40}};
        TurnShifts x = Check.unit(SMALL);
        for (int[] w : down) {
            same("11: of " + w[0], x.takenOut(0, w[0]), w[1]);
            same("11: of the line " + w[0], x.takenOut(1, w[0]), w[0]);
        }
        int[][] near = {{0, 0}, {1, 1}, {2, 1}, {3, 2}, {4, 3}, {31, 20}, {32, 19}, {-1, 0}, {-2, -1}, {-4, -2},
            {-5, -3}, {-32, -20}, {-33, -19}};
        TurnShifts y = Check.unit(SMALL + ";near");
        for (int[] w : near) {
            same("11: near, of " + w[0], y.takenOut(0, w[0]), w[1]);
            same("11: near, k isn't above 0, of " + w[0], y.takenOut(1, w[0]), w[0]);
        }
    }

    /** "v (to 2 to the 29, ..)", "HIDDEN: .. out of bounds." */
    private static void takenOutToTheBound() {
        int most = 1 << 29;
        for (int width : new int[] {6, 14, 22}) {
            for (int guard : new int[] {0, 4}) {
                for (String way : new String[] {"", ";near"}) {
                    TurnShifts x = Check.unit("width " + width + ";guard " + guard + ";stages 11" + way);
                    Model.Tables due = new Model.Tables(width, guard, 11, 11, !way.isEmpty());
                    for (int mode = 0; mode < 3; mode++) {
                        for (int v : new int[] {most, -most, most - 1, 1 - most, 1, -1, 0, 123456789}) {
                            same("11: of " + v, x.takenOut(mode, v),
                                due.takenOut(mode, BigInteger.valueOf(v)).longValueExact());
                        }
                        for (int v : new int[] {most + 1, -most - 1, MIN, MAX}) {
                            same("11: beyond: " + v, x.takenOut(mode, v), HIDDEN);
                        }
                    }
                }
            }
        }
    }

    /** "OUT of v: v, if P is F, else [(v and 2 to the (guard - 1)) / 2 to the guard] (near or not)." */
    private static void outOfAllGuards() {
        for (int guard = 0; guard <= 4; guard++) {
            for (String way : new String[] {"", ";near"}) {
                long seen = 0;
                for (int first = -240; first < 240; first += 12) {
                    TurnShifts x = Check.unit("width 8;stages 9;guard " + guard + way);
                    for (int job = 0; job < 12; job++) {
                        x.job(4, first + job, 0, 0);
                    }
                    x.clock(30);
                    for (int job = 0; job < 12; job++) {
                        long y = x.trace(job, 9, 1);
                        long half = guard == 0 ? 0 : 1L << (guard - 1);
                        same("3: OUT of " + y, x.result(job, 1), Math.floorDiv(y + half, 1L << guard));
                        seen |= 1L << Math.floorMod(y, 1 << guard) + (y < 0 ? 16 : 0);
                    }
                }
                long all = (1L << (1 << guard)) - 1;
                same("each remainder was there, above 0 and below", seen, all | all << 16);
            }
        }
    }

    /** "TURNING: 1, if z is 0 or more; LEVELLING: 1, if y is below 0." */
    private static void signsAtNull() {
        TurnShifts x = Check.unit(SMALL);
        int[][] jobs = {{0, 0, 0}, {0, 1, 0}, {0, -1, 0}, {2, 9, 0}, {2, 9, -1}, {4, 0, 0}, {4, -1, 0},
            {1, 9, 0}, {1, 9, 1}, {1, 9, -1}, {3, 0, 9}, {3, -1, 9}, {3, 1, 9}, {8, 5, 5}};
        int[] up = {1, 1, 0, 1, 0, 1, 0, 0, 0, 1, 0, 1, 0, 1};
        for (int job = 0; job < jobs.length; job++) {
            x.job(jobs[job][0], jobs[job][1], jobs[job][2], 0);
        }
        x.clock(30);
        for (int job = 0; job < jobs.length; job++) {
            same("3: d of job " + job + " in stage 0", x.signs(job) & 1, up[job]);
            int mode = x.told(job, 8);
            long z = x.trace(job, 0, 2) - (up[job] == 1 ? 1 : -1) * x.stage(mode, 0, 1);
            same("3: z behind stage 0", x.trace(job, 1, 2), z);
        }
        // ROOT of 16 begins with y 0, by near LOG of 127 does, too.
        x = Check.unit(SMALL + ";near");
        x.job(7, 16, 0, 0);
        x.job(6, 127, 0, 0);
        x.job(6, 126, 0, 0);
        x.clock(30);
        same("3: y is 0", x.trace(0, 0, 1), 0);
        same("3: y is 0", x.signs(0) & 1, 0);
        same("3: y is 0", x.trace(1, 0, 1), 0);
        same("3: y is 0", x.signs(1) & 1, 0);
        same("3: y is -1", x.trace(2, 0, 1), -1);
        same("3: y is -1", x.signs(2) & 1, 1);
    }

    /** "Of x, y, z become: ..", with SHIFTS that go down or near, each KIND from its first STAGE to its RESULTS. */
    private static void stagesOfKinds() {
        int[][] all = {{0, -150, 0, 0}, {1, -300, 401, 0}, {1, 300, -401, 0}, {2, -400, 777, 0}, {3, 300, -77, 0},
            {4, -100, 0, 0}, {5, 411, 0, 0}, {6, 77, 0, 0}, {7, 1999, 0, 0}, {8, -300, 401, 700}, {8, 301, 40, -1700}};
        for (String rest : new String[] {";guard 0", ";guard 0;near", ";guard 3", ";guard 3;near"}) {
            for (int[] w : all) {
                for (int stages : new int[] {5, 9, 24}) {
                    TurnShifts x = Check.unit("width 8;stages " + stages + rest);
                    x.job(w[0], w[1], w[2], w[3]);
                    x.clock(stages + 2);
                    stagesOf(x, stages, rest.endsWith("near"));
                    resultsOf(x, stages, x.rule(1));
                    same("22: as value()", x.result(0, 0), x.value(w[0], w[1], w[2], w[3], 0));
                    same("22: as value()", x.result(0, 1), x.value(w[0], w[1], w[2], w[3], 1));
                }
            }
        }
    }

    private static void stagesOf(TurnShifts x, int stages, boolean near) {
        int mode = x.told(0, 8);
        boolean turning = x.told(0, 9) == 1;
        int signs = x.signs(0);
        for (int stage = 0; stage < stages; stage++) {
            int k = x.stage(mode, stage, 0);
            long half = near && k > 0 ? 1L << (k - 1) : 0;
            long[] at = {x.trace(0, stage, 0), x.trace(0, stage, 1), x.trace(0, stage, 2)};
            long d = (turning ? at[2] >= 0 : at[1] < 0) ? 1 : -1;
            same("24: d", signs >> stage & 1, d == 1 ? 1 : 0);
            long byY = d * Math.floorDiv(at[1] + half, 1L << k);
            long byX = d * Math.floorDiv(at[0] + half, 1L << k);
            same("23: x", x.trace(0, stage + 1, 0), mode == 0 ? at[0] - byY : mode == 1 ? at[0] : at[0] + byY);
            same("23: y", x.trace(0, stage + 1, 1), at[1] + byX);
            same("23: z", x.trace(0, stage + 1, 2), at[2] - d * x.stage(mode, stage, 1));
        }
        same("24: no more bits", signs >> stages, 0);
    }

    /** What is TAKEN OUT of those that say so: POLAR's x, both of TURN; POLAR's z, BOW's x, y as they are. */
    private static void resultsOf(TurnShifts x, int stages, int guard) {
        int kind = x.told(0, 0);
        long[] last = {x.trace(0, stages, 0), x.trace(0, stages, 1), x.trace(0, stages, 2)};
        long half = guard == 0 ? 0 : 1L << (guard - 1);
        if (kind == 1 || kind == 8) {
            same("3: x TAKEN OUT", x.result(0, 0), x.takenOut(0, (int) last[0]) + half >> guard);
            long second = kind == 1 ? last[2] : x.takenOut(0, (int) last[1]);
            same("3: z, or y TAKEN OUT", x.result(0, 1), second + half >> guard);
        }
        if (kind == 4) {
            same("3: x", x.result(0, 0), last[0] + half >> guard);
            same("3: y", x.result(0, 1), last[1] + half >> guard);
        }
    }

    /** Whether a KIND can be asked of a, b, c: all calls that ask for that agree. */
    private static void can(String unit, boolean is, int kind, int a, int b, int c) {
        TurnShifts x = Check.unit(unit);
        String what = unit + ": " + WORDS[kind] + " " + a + " " + b + " " + c;
        for (int i = 0; i < 2; i++) {
            same("12: " + what, x.value(kind, a, b, c, i) != HIDDEN ? 1 : 0, is ? 1 : 0);
            same("28: " + what, x.finest(kind, a, b, c, i) != HIDDEN ? 1 : 0, is ? 1 : 0);
            same("29: " + what, x.apart(kind, a, b, c, i) != HIDDEN ? 1 : 0, is ? 1 : 0);
        }
        same("14: " + what, x.job(kind, a, b, c), is ? 0 : NONE);
        same("14: " + what, x.status(1), is ? 0 : 1);
        if (NAMES[kind] == 1) {
            same("31: " + what, x.sweep(kind, a, 0, 1, 3), is ? 0 : 1);
        }
        int[] abc = {a, b, c};
        StringBuilder text = new StringBuilder(WORDS[kind]);
        for (int name = 0; name < NAMES[kind]; name++) {
            text.append(' ').append(abc[name]);
        }
        Check.tape(x, text.toString());
        if (x.fault(1) == NONE) {
            same("15: " + what, x.orders(), is ? 1 : NONE);
        }
        same("35: nothing else is counted", x.status(0) + x.status(2) + x.status(3), 0);
    }

    /** "Out of bounds is what is beyond what is named ("to": no more, either way)", for each KIND and operand. */
    private static void boundsOfKinds() {
        int[][] more = {{5}, {5, 5}, {4, 4}, {4, 4}, {0}, {2}, {5}, {5}, {4, 4, 5}};
        for (int width : new int[] {6, 7, 15, 22}) {
            for (String rest : new String[] {";guard 0;stages 5", ";guard 4;stages 24;near", ";stages 9;fold 2"}) {
                String unit = "width " + width + rest;
                for (int kind = 0; kind < 9; kind++) {
                    for (int name = 0; name < NAMES[kind]; name++) {
                        int most = 1 << (width + more[kind][name]);
                        boolean below = kind != 6 && kind != 7;
                        bound(unit, true, kind, name, most);
                        bound(unit, false, kind, name, most + 1);
                        bound(unit, below, kind, name, -most);
                        bound(unit, false, kind, name, -most - 1);
                        bound(unit, false, kind, name, MIN);
                        bound(unit, false, kind, name, MAX);
                        // A wrap-around of 32 bits on the way to 2 to the P must not bring it within.
                        bound(unit, false, kind, name, 1 << 30);
                        bound(unit, false, kind, name, -(1 << 30));
                    }
                }
                // "above 0", "not both 0", "b not 0".
                for (int kind = 6; kind < 8; kind++) {
                    can(unit, true, kind, 1, 0, 0);
                    can(unit, false, kind, 0, 0, 0);
                    can(unit, false, kind, 0, 1, 1);
                    can(unit, false, kind, -1, 0, 0);
                }
                can(unit, false, 1, 0, 0, 0);
                can(unit, false, 1, 0, 0, 1);
                for (int one : new int[] {1, -1}) {
                    can(unit, true, 1, one, 0, 0);
                    can(unit, true, 1, 0, one, 0);
                    can(unit, false, 3, one, 0, 0);
                    can(unit, true, 3, 0, one, 0);
                }
                can(unit, false, 3, 0, 0, 0);
                can(unit, true, 2, 0, 0, 0);
                can(unit, true, 8, 0, 0, 0);
                can(unit, true, 0, 0, 0, 0);
                can(unit, true, 4, 0, 0, 0);
                can(unit, true, 5, 0, 0, 0);
            }
        }
    }

    /** The other operands as large as they may be (of OVER: so that no more than 6 shifts are needed). */
    private static void bound(String unit, boolean is, int kind, int name, int v) {
        int width = Integer.parseInt(unit.substring(6, unit.indexOf(';')));
        int[] abc = {1 << (width + 4), 1 << (width + 4), 1 << (width + 5)};
        abc[name] = v;
        can(unit, is, kind, abc[0], abc[1], abc[2]);
        if (name < 2) {
            abc[1 - name] = -abc[1 - name];
            can(unit, is, kind, abc[0], abc[1], -abc[2]);
        }
    }

    /** "s the least (0 on) with which |A| is no more than B times 2 to the s (above 6: out of bounds)". */
    private static void boundsOfOver() {
        for (int width : new int[] {6, 22}) {
            for (int guard : new int[] {0, 4}) {
                String unit = "width " + width + ";stages 7;guard " + guard;
                int sixteen = 1 << (width + 4);
                for (int b : new int[] {1, 2, 3, 15, sixteen / 64}) {
                    for (int sign : new int[] {1, -1}) {
                        can(unit, true, 3, 64 * b, sign * b, 0);
                        can(unit, true, 3, -64 * b, sign * b, 0);
                        can(unit, false, 3, 64 * b + 1, sign * b, 0);
                        can(unit, false, 3, -64 * b - 1, sign * b, 0);
                        can(unit, true, 3, 64 * b - 1, sign * b, 0);
                    }
                }
                can(unit, true, 3, sixteen, sixteen / 64, 0);
                can(unit, false, 3, sixteen, sixteen / 64 - 1, 0);
                can(unit, true, 3, 1, sixteen, 0);
                can(unit, false, 3, 1, sixteen + 1, 0);
            }
        }
    }

    /** "HIDDEN: no such ones", i and KIND. */
    private static void noSuchValues() {
        Watch.Calls small = x -> {
            Check.tape(x, SMALL);
            x.unit();
        };
        for (int kind : new int[] {-1, 9, MIN, MAX}) {
            Watch.asks("12: no such kind", small, x -> x.value(kind, 1, 1, 1, 0), HIDDEN);
            Watch.asks("28: no such kind", small, x -> x.finest(kind, 1, 1, 1, 0), HIDDEN);
            Watch.asks("29: no such kind", small, x -> x.apart(kind, 1, 1, 1, 0), HIDDEN);
            Watch.refused("14: no such kind", small, x -> x.job(kind, 1, 1, 1), NONE, 0);
        }
        for (int i : new int[] {-1, 2, MIN, MAX}) {
            Watch.asks("12: no such i", small, x -> x.value(8, 1, 1, 1, i), HIDDEN);
            Watch.asks("28: no such i", small, x -> x.finest(8, 1, 1, 1, i), HIDDEN);
            Watch.asks("29: no such i", small, x -> x.apart(8, 1, 1, 1, i), HIDDEN);
        }
        Watch.asks("12: no job", small, x -> x.value(0, 100, 0, 0, 1), 64);
        Watch.asks("12: out of bounds", small, x -> x.value(0, 2049, 0, 0, 1), HIDDEN);
        Watch.asks("28: out of bounds", small, x -> x.finest(0, 2049, 0, 0, 1), HIDDEN);
        Watch.asks("29: out of bounds", small, x -> x.apart(0, 2049, 0, 0, 1), HIDDEN);
    }

    /** "b, c are not asked where they aren't named". */
    private static void whatIsNotAsked() {
        TurnShifts x = Check.unit("width 22;guard 4;stages 20");
        for (int kind = 0; kind < 8; kind++) {
            for (int free : new int[] {MIN, MAX, -1, 1 << 30}) {
                int b = NAMES[kind] > 1 ? 77 : free;
                for (int i = 0; i < 2; i++) {
                    same("12: not asked", x.value(kind, 55, b, free, i), x.value(kind, 55, 77, 0, i));
                    same("28: not asked", x.finest(kind, 55, b, free, i), x.finest(kind, 55, 77, 0, i));
                    same("29: not asked", x.apart(kind, 55, b, free, i), x.apart(kind, 55, 77, 0, i));
                }
            }
        }
        for (int kind = 0; kind < 8; kind++) {
            same("14: not asked", x.job(kind, 55, NAMES[kind] > 1 ? 77 : MIN, MAX), kind);
        }
        x.clock(60);
        for (int kind = 0; kind < 8; kind++) {
            same("22: not asked", x.result(kind, 0), x.value(kind, 55, 77, 0, 0));
            same("21: c as it was told", x.told(kind, 3), MAX);
        }
    }

    /** "RESULT 1 is 0 where there is none". */
    private static void noSecondResult() {
        for (int guard = 0; guard <= 4; guard++) {
            noSecondResult("width 10;stages 12;guard " + guard);
            noSecondResult("width 10;stages 12;near;guard " + guard);
        }
    }

    private static void noSecondResult(String unit) {
        TurnShifts x = Check.unit(unit);
        int[] none = {2, 3, 5, 6, 7};
        for (int job = 0; job < none.length; job++) {
            same("12: RESULT 1", x.value(none[job], 700, 600, 500, 1), 0);
            same("28: RESULT 1", x.finest(none[job], 700, 600, 500, 1), 0);
            same("29: RESULT 1", x.apart(none[job], 700, 600, 500, 1), 0);
            x.job(none[job], 700, 600, 500);
        }
        x.clock(40);
        for (int job = 0; job < none.length; job++) {
            same("22: RESULT 1", x.result(job, 1), 0);
        }
        for (int kind : new int[] {0, 1, 4, 8}) {
            Check.yes("12: there is a RESULT 1", x.value(kind, 700, 600, 500, 1) != 0);
        }
    }

    /** Where a JOB begins: x, y, z ahead of STAGE 0. */
    private static void begins(String unit, int kind, int a, int b, int c, long... xyz) {
        TurnShifts t = Check.unit(unit);
        t.job(kind, a, b, c);
        t.clock(1);
        for (int what = 0; what < 3; what++) {
            same("3: " + WORDS[kind] + " " + a + " " + b + " " + c + " begins with " + what,
                t.trace(0, 0, what), xyz[what]);
        }
    }

    /** "q: [(2 A and QUARTER) / (2 QUARTER)]": at half a QUARTER, either way. QUARTER is 100, UNDO 39. */
    private static void quartersBroughtNear() {
        int[][] all = {{0, 0}, {49, 49}, {50, -50}, {51, -49}, {149, 49}, {150, -50}, {-49, -49}, {-50, -50}, {-51, 49},
            {-150, -50}, {-151, 49}, {2048, 48}, {-2048, -48}};
        for (int[] w : all) {
            begins(SMALL, 0, w[0], 0, 0, 39, 0, w[1]);
        }
        // With guard 1 QUARTER is 202 (AT(0) 101): 50 is 100, 51 is 102.
        TurnShifts x = Check.unit("width 6;guard 1;stages 5");
        long undo = x.mode(0, 1);
        begins("width 6;guard 1;stages 5", 0, 50, 0, 0, undo, 0, 100);
        begins("width 6;guard 1;stages 5", 0, 51, 0, 0, undo, 0, -100);
    }

    /** "q: [(2 A and LN) / (2 LN)]": at half an LN, either way. LN is 44, UNDO of the hyperbola 77. */
    private static void powersBroughtNear() {
        int[][] all = {{0, 0}, {21, 21}, {22, -22}, {23, -21}, {65, 21}, {66, -22}, {-21, -21}, {-22, -22}, {-23, 21},
            {-66, -22}, {-67, 21}, {256, -8}, {-256, 8}};
        for (int[] w : all) {
            begins(SMALL, 5, w[0], 0, 0, 77, 0, w[1]);
        }
        int[][] bow = {{0, 0}, {64, 64}, {-64, -64}};
        for (int[] w : bow) {
            begins(SMALL, 4, w[0], 0, 0, 77, 0, w[1]);
        }
    }

    /** "A below 0: x -A, y -B, z two QUARTERS (B 0 or more), else less two; otherwise x A, y B, z 0." */
    private static void polarBroughtNear() {
        begins(SMALL, 1, 0, 5, 0, 0, 5, 0);
        begins(SMALL, 1, 0, -5, 0, 0, -5, 0);
        begins(SMALL, 1, 1, -5, 0, 1, -5, 0);
        begins(SMALL, 1, -1, 0, 0, 1, 0, 200);
        begins(SMALL, 1, -1, 1, 0, 1, -1, 200);
        begins(SMALL, 1, -1, -1, 0, 1, 1, -200);
        begins(SMALL, 1, -2048, 2048, 0, 2048, -2048, 200);
        begins(SMALL, 1, 2048, -2048, 0, 2048, -2048, 0);
        begins("width 6;guard 3;stages 5", 1, -3, -4, 0, 24, 32, -4 * 402);
    }

    /** "s the least (0 on) with which |B| is no more than 2 to the (P and s)", "z SHIFT of B by s". */
    private static void timesBroughtNear() {
        int[][] all = {{0, 0}, {64, 64}, {65, 32}, {66, 33}, {128, 64}, {129, 32}, {256, 64}, {257, 32}, {512, 64},
            {513, 32}, {1024, 64}, {-64, -64}, {-65, -33}, {-128, -64}, {-129, -33}, {-1024, -64}, {1023, 63}};
        for (int[] w : all) {
            begins(SMALL, 2, -7, w[0], 0, -7, 0, w[1]);
        }
        int[][] near = {{65, 33}, {66, 33}, {-65, -32}, {-67, -33}, {129, 32}, {130, 33}, {1023, 64}, {-1023, -64}};
        for (int[] w : near) {
            begins(SMALL + ";near", 2, 1024, w[0], 0, 1024, 0, w[1]);
        }
        begins("width 6;guard 1;stages 5", 2, -1024, 65, 0, -2048, 0, 65);
        // "y times 2 to the s": of 64 (one) times 65, y is shifted up by one.
        TurnShifts x = Check.unit(SMALL);
        for (int b : new int[] {64, 65, 128, 129, 257, 513, 1024, -65, -1024}) {
            x.job(2, 640, b, 0);
        }
        x.clock(30);
        int[] s = {0, 1, 1, 2, 3, 4, 4, 1, 4};
        for (int job = 0; job < s.length; job++) {
            same("3: y times 2 to the s", x.result(job, 0), x.trace(job, 5, 1) << s[job]);
        }
    }

    /** "Both with the other sign, if B is below 0.", "x B times 2 to the s, y A, z 0", "z times 2 to the s". */
    private static void overBroughtNear() {
        int[][] all = {{5, 5, 5, 5, 0}, {6, 5, 10, 6, 1}, {10, 5, 10, 10, 1}, {11, 5, 20, 11, 2}, {320, 5, 320, 320, 6},
            {-5, 5, 5, -5, 0}, {-6, 5, 10, -6, 1}, {5, -5, 5, -5, 0}, {-6, -5, 10, 6, 1}, {0, -5, 5, 0, 0},
            {161, 5, 320, 161, 6}, {160, 5, 160, 160, 5}, {-161, -5, 320, 161, 6}, {1024, 1024, 1024, 1024, 0},
            {5, -1, 8, -5, 3}, {-5, -1, 8, 5, 3}, {5, 1, 8, 5, 3}, {-5, 1, 8, -5, 3}, {0, 1, 1, 0, 0}, {0, -1, 1, 0, 0}};
        TurnShifts x = Check.unit(SMALL);
        for (int[] w : all) {
            begins(SMALL, 3, w[0], w[1], 0, w[2], w[3], 0);
            x.job(3, w[0], w[1], 0);
        }
        x.clock(60);
        for (int job = 0; job < all.length; job++) {
            same("3: z times 2 to the s", x.result(job, 0), x.trace(job, 5, 2) << all[job][4]);
        }
        begins("width 6;guard 2;stages 5", 3, 6, -5, 0, 40, -24, 0);
    }

    /** "e: A is from 2 to the (P - 1 and e) to less than 2 to the (P and e); M: SHIFT of A by e (.. times ..)". */
    private static void logBroughtNear() {
        // a, M, e.
        int[][] all = {{1, 32, -5}, {2, 32, -4}, {3, 48, -4}, {31, 62, -1}, {32, 32, 0}, {63, 63, 0}, {64, 32, 1}, {65, 32, 1},
            {127, 63, 1}, {128, 32, 2}, {255, 63, 2}, {2047, 63, 5}, {2048, 32, 6}};
        TurnShifts x = Check.unit(SMALL);
        for (int[] w : all) {
            begins(SMALL, 6, w[0], 0, 0, w[1] + 64, w[1] - 64, 0);
            x.job(6, w[0], 0, 0);
        }
        x.clock(60);
        for (int job = 0; job < all.length; job++) {
            same("3: twice z, and e LNs", x.result(job, 0), 2 * x.trace(job, 5, 2) + 44 * all[job][2]);
        }
        begins(SMALL + ";near", 6, 127, 0, 0, 64 + 64, 0, 0);
        begins(SMALL + ";near", 6, 65, 0, 0, 33 + 64, 33 - 64, 0);
        begins(SMALL + ";near", 6, 3, 0, 0, 48 + 64, 48 - 64, 0);
        begins("width 6;guard 4;stages 5", 6, 1, 0, 0, 512 + 1024, 512 - 1024, 0);
    }

    /** "h: A is from 2 to the (P - 2 and 2 h) to less than 2 to the (P and 2 h); M: SHIFT of A by 2 h (likewise)". */
    private static void rootBroughtNear() {
        // a, M, h.
        int[][] all = {{1, 16, -2}, {3, 48, -2}, {4, 16, -1}, {15, 60, -1}, {16, 16, 0}, {63, 63, 0}, {64, 16, 1}, {67, 16, 1},
            {255, 63, 1}, {256, 16, 2}, {1023, 63, 2}, {1024, 16, 3}, {2048, 32, 3}};
        TurnShifts x = Check.unit(SMALL);
        TurnShifts y = Check.unit(SMALL + ";near");
        for (int[] w : all) {
            begins(SMALL, 7, w[0], 0, 0, w[1] + 16, w[1] - 16, 0);
            x.job(7, w[0], 0, 0);
            y.job(7, w[0], 0, 0);
        }
        x.clock(60);
        y.clock(60);
        for (int job = 0; job < all.length; job++) {
            int h = all[job][2];
            long out = x.takenOut(2, (int) x.trace(job, 5, 0));
            same("3: times 2 to the h", x.result(job, 0), h < 0 ? out >> -h : out << h);
            long near = y.takenOut(2, (int) y.trace(job, 5, 0));
            same("3: near, times 2 to the h", y.result(job, 0), h < 0 ? near + (1 << (-h - 1)) >> -h : near << h);
        }
        begins(SMALL + ";near", 7, 255, 0, 0, 64 + 16, 64 - 16, 0);
        begins(SMALL + ";near", 7, 66, 0, 0, 17 + 16, 17 - 16, 0);
        begins("width 6;guard 4;stages 5", 7, 1, 0, 0, 256 + 256, 0, 0);
    }

    /** "C, q as A, q in SINE; x, y: A, B turned q quarters (as RESULTS of SINE); z C less q QUARTERS". */
    private static void turnBroughtNear() {
        long[][] all = {{49, 30, 40, 49}, {50, -40, 30, -50}, {-50, 30, 40, -50}, {-51, 40, -30, 49}, {150, -30, -40, -50},
            {250, 40, -30, -50}, {350, 30, 40, -50}, {-151, -30, -40, 49}, {-251, -40, 30, 49}, {-351, 30, 40, 49},
            {2048, 30, 40, 48}, {-2048, 30, 40, -48}};
        for (long[] w : all) {
            begins(SMALL, 8, 30, 40, (int) w[0], w[1], w[2], w[3]);
        }
        begins("width 6;guard 1;stages 5", 8, 30, -40, 51, 80, 60, -100);
        begins("width 6;guard 1;stages 5", 8, 30, -40, 50, 60, -80, 100);
    }

    /** "By q modulo 4 (0 to 3): x, y | -y, x | -x, -y | y, -x." */
    private static void quartersPutBack() {
        TurnShifts x = Check.unit(SMALL);
        int[] turns = {0, 1, 2, 3, 4, 5, -1, -2, -3, -4, -5, 20, -20};
        for (int q : turns) {
            x.job(0, 100 * q + 13, 0, 0);
        }
        x.clock(40);
        for (int job = 0; job < turns.length; job++) {
            long u = x.trace(job, 5, 0);
            long v = x.trace(job, 5, 1);
            same("3: z is 13", x.trace(job, 0, 2), 13);
            long[][] due = {{u, v}, {-v, u}, {-u, -v}, {v, -u}};
            int q = Math.floorMod(turns[job], 4);
            same("3: RESULT 0 by q " + turns[job], x.result(job, 0), due[q][0]);
            same("3: RESULT 1 by q " + turns[job], x.result(job, 1), due[q][1]);
        }
        // POWER: "x and y, times 2 to the q (q below 0: SHIFT by -q)".
        for (String near : new String[] {"", ";near"}) {
            TurnShifts y = Check.unit(SMALL + near);
            for (int q = -5; q <= 5; q++) {
                y.job(5, 44 * q + 7, 0, 0);
            }
            y.clock(40);
            for (int q = -5; q <= 5; q++) {
                long sum = y.trace(q + 5, 5, 0) + y.trace(q + 5, 5, 1);
                long half = near.isEmpty() || q >= 0 ? 0 : 1L << (-q - 1);
                same("3: POWER by q " + q, y.result(q + 5, 0), q < 0 ? sum + half >> -q : sum << q);
            }
        }
    }

    /** "the fewest STAGES (5 to 24) with which OFF (of this width, guard) is no more than t"; "none (0, 6 alone)". */
    private static void offAndFewest() {
        for (int[] unit : new int[][] {{6, 0}, {6, 4}, {8, 2}, {12, 1}, {16, 3}, {22, 0}, {22, 4}}) {
            TurnShifts x = Check.unit("width " + unit[0] + ";stages 24;near;fold 7;guard " + unit[1]);
            Model.Tables due = new Model.Tables(unit[0], unit[1], 5, 5, false);
            for (int kind = 0; kind <= 6; kind += 6) {
                long least = Long.MAX_VALUE;
                for (int stages = 5; stages <= 24; stages++) {
                    long off = due.off(kind, stages).longValueExact();
                    if (off < least) {
                        same("30: no more than t", x.fewest(kind, (int) off), stages);
                        least = off;
                    }
                }
                same("30: none", x.fewest(kind, (int) least - 1), NONE);
                same("30: none", x.fewest(kind, 0), NONE);
                same("30: none", x.fewest(kind, MIN), NONE);
                same("30: the least of all", x.fewest(kind, MAX), 5);
            }
        }
        TurnShifts x = Check.unit(SMALL);
        for (int kind : new int[] {-1, 1, 2, 3, 4, 5, 7, 8, 9, MIN, MAX}) {
            same("13: none", x.off(kind), NONE);
            same("30: no such kind", x.fewest(kind, MAX), NONE);
        }
        same("13: SINE", x.off(0), 4 + 20 + 32 + 2);
        same("13: LOG", x.off(6), 2 * 4 + 40 + 32 + 2);
        Watch.Calls small = y -> {
            Check.tape(y, SMALL);
            y.unit();
        };
        Watch.asks("30: nothing is changed", small, y -> y.fewest(0, MAX), 5);
        Watch.asks("13: nothing is changed", small, y -> y.off(1), NONE);
    }

    /**
     * "(So far RESULTS are off at the most.)", of all units. Where the hyperbola's second SHIFT of 13 is missing, its
     * ANGLES leave a gap behind the second 4 that the document's sum doesn't have; LOG may be off by twice that more.
     */
    private static void soFarOffAtTheMost() {
        for (int unit = 0; unit < 17 * 5 * 20 * 2; unit++) {
            int width = 6 + unit % 17;
            int guard = unit / 17 % 5;
            int stages = 5 + unit / 85 % 20;
            String near = unit / 1700 == 0 ? "" : ";near";
            TurnShifts x = Check.unit("width " + width + ";guard " + guard + ";stages " + stages + near);
            double one = 1 << width;
            double gap = 2.0 * gapOf(x, 2, stages) / (1 << guard);
            same("13: the circle has no gap", gapOf(x, 0, stages), 0);
            int most = 32 << width;
            int step = 2 * most / 119;
            int sineOff = x.off(0);
            int logOff = x.off(6);
            for (int a = -most + unit % step; a <= most; a += step) {
                within("13: the cosine of " + a, x.value(0, a, 0, 0, 0), Math.cos(a / one) * one, sineOff);
                within("13: the sine of " + a, x.value(0, a, 0, 0, 1), Math.sin(a / one) * one, sineOff);
                if (a > 0) {
                    within("13: the log of " + a, x.value(6, a, 0, 0, 0), Math.log(a / one) * one, logOff + gap);
                }
            }
        }
    }

    /** By how much an ANGLE is at the most more than all behind it and the last one once more. */
    private static long gapOf(TurnShifts x, int mode, int stages) {
        long behind = x.stage(mode, stages - 1, 1);
        long gap = 0;
        for (int stage = stages - 1; stage >= 0; stage--) {
            // What is rounded is no gap: half a unit of each ANGLE.
            gap = Math.max(gap, x.stage(mode, stage, 1) - behind - stages);
            behind += x.stage(mode, stage, 1);
        }
        return gap;
    }

    private static void within(String what, long got, double want, double off) {
        if (Math.abs(got - want) > off) {
            same(what + " (off by " + off + " at the most)", got, Math.round(want));
        }
    }

    /** "the RESULT that a UNIT with width 22, guard 4, stages 24, near would have of a, b, c times 2 to the (22 - F)". */
    private static void finestOfAllUnits() {
        TurnShifts best = Check.unit("width 22;guard 4;stages 24;near");
        int[][] all = {{0, 64, 0, 0}, {0, -2048, 0, 0}, {1, -2048, 2048, 0}, {2, 1024, -1024, 0}, {3, -64, 1, 0},
            {4, -64, 0, 0}, {5, 256, 0, 0}, {5, -256, 0, 0}, {6, 1, 0, 0}, {6, 2048, 0, 0}, {7, 1, 0, 0}, {8, 1024, 1024, -2048}};
        for (String rest : new String[] {";guard 0;stages 5", ";guard 4;stages 24;near", ";stages 9;fold 1"}) {
            for (int width : new int[] {6, 7, 14, 21, 22}) {
                TurnShifts x = Check.unit("width " + width + rest);
                for (int[] w : all) {
                    int up = width - 6;
                    int to = 22 - width;
                    for (int i = 0; i < 2; i++) {
                        int due = best.value(w[0], w[1] << 16, w[2] << 16, w[3] << 16, i);
                        same("28: FINEST", x.finest(w[0], w[1] << up, w[2] << up, w[3] << up, i), due);
                        long mine = (long) x.value(w[0], w[1] << up, w[2] << up, w[3] << up, i) << to;
                        same("29: either way", x.apart(w[0], w[1] << up, w[2] << up, w[3] << up, i), Math.abs(mine - due));
                    }
                }
            }
        }
    }

    /** "SWEEP (n 1 to 200). Long.MIN_VALUE: no UNIT, no such KIND, what, n; of 0, 1: none can be." */
    private static void sweepBounds() {
        Watch.Calls small = x -> {
            Check.tape(x, SMALL);
            x.unit();
        };
        for (int what = 0; what < 4; what++) {
            int w = what;
            for (int n : new int[] {0, -1, 201, MIN, MAX}) {
                Watch.asks("31: no such n", small, x -> x.sweep(0, 1, 1, n, w), Long.MIN_VALUE);
            }
            for (int kind : new int[] {-1, 1, 2, 3, 8, 9, MIN, MAX}) {
                Watch.asks("31: no such kind", small, x -> x.sweep(kind, 1, 1, 1, w), Long.MIN_VALUE);
            }
        }
        for (int what : new int[] {-1, 4, MIN, MAX}) {
            Watch.asks("31: no such what", small, x -> x.sweep(0, 1, 1, 1, what), Long.MIN_VALUE);
        }
        TurnShifts x = Check.unit(SMALL);
        for (int kind : new int[] {0, 4, 5, 6, 7}) {
            same("31: a kind that names a alone", x.sweep(kind, 1, 0, 1, 3), 0);
            same("31: n 1", x.sweep(kind, 1, 5, 1, 1), 1);
            same("31: n 1", x.sweep(kind, 1, 5, 1, 0), x.apart(kind, 1, 0, 0, 0));
            same("31: n 1", x.sweep(kind, 1, 5, 1, 2), 0);
            same("31: n 200", x.sweep(kind, MAX, 0, 200, 3), 200);
            same("31: none can be", x.sweep(kind, MAX, 0, 200, 0), Long.MIN_VALUE);
            same("31: none can be", x.sweep(kind, MIN, 0, 1, 1), Long.MIN_VALUE);
            same("31: none can be", x.sweep(kind, MIN, 0, 1, 2), 0);
            same("31: none can be", x.sweep(kind, MIN, 0, 1, 3), 1);
        }
        same("31: all 200 of them", x.sweep(0, 2048, -1, 200, 3), 0);
        same("31: the last of 200", x.sweep(0, 2247, -1, 200, 3), 199);
        same("31: the last of 200", x.sweep(0, 2247, -1, 200, 1), 2048);
        same("31: one can be", x.sweep(0, 2247, -1, 200, 2), 0);
        same("31: the last of 199 can't", x.sweep(0, 2247, -1, 199, 0), Long.MIN_VALUE);
        same("31: those at the bounds", x.sweep(4, -65, 1, 131, 3), 2);
        same("31: those at the bounds", x.sweep(6, -1, 1, 3, 3), 2);
        same("31: those at the bounds", x.sweep(5, 257, -514, 2, 3), 2);
    }

    /** "as whole numbers without bounds; those that are out of bounds can't be". */
    private static void sweepsWithoutBounds() {
        TurnShifts x = Check.unit(SMALL);
        same("31: no wrap-around", x.sweep(0, 0, MIN, 200, 3), 199);
        same("31: no wrap-around", x.sweep(0, MIN, MIN, 200, 3), 200);
        same("31: no wrap-around", x.sweep(0, MAX, MAX, 200, 3), 200);
        same("31: no wrap-around", x.sweep(0, 2, MAX, 3, 3), 2);
        same("31: no wrap-around", x.sweep(0, 5, MIN, 3, 1), 5);
        same("31: from beyond to within", x.sweep(0, MIN, MAX, 2, 1), -1);
        same("31: from beyond to within", x.sweep(0, MAX, -MAX, 2, 1), 0);
        same("31: 2 to the 30 four times", x.sweep(6, 1, 1 << 30, 5, 3), 4);
    }

    /** "0 the greatest APART of RESULT 0, 1 the first of them with it, 2 how often RESULT 0 is less than ..". */
    private static void sweepsThatTie() {
        TurnShifts best = Check.unit("width 22;guard 4;stages 24;near");
        same("31: all are 0", best.sweep(0, 5, 7, 50, 0), 0);
        same("31: the first", best.sweep(0, 5, 7, 50, 1), 5);
        same("31: the first that can be", best.sweep(6, -14, 7, 50, 1), 7);
        TurnShifts x = Check.unit(SMALL);
        same("31: no less than itself", x.sweep(0, 77, 0, 200, 2), 0);
        for (int kind : new int[] {0, 4, 5, 6, 7}) {
            for (int d : new int[] {1, -1, 3, -17}) {
                int a = d > 0 ? -64 : 64;
                long greatest = -1;
                long first = 0;
                int less = 0;
                int ahead = MIN;
                int not = 0;
                for (int v = a, j = 0; j < 100; v += d, j++) {
                    int result = x.value(kind, v, 0, 0, 0);
                    if (result == HIDDEN) {
                        not++;
                        continue;
                    }
                    less += result < ahead ? 1 : 0;
                    ahead = result;
                    long apart = x.apart(kind, v, 0, 0, 0);
                    first = apart > greatest ? v : first;
                    greatest = Math.max(greatest, apart);
                }
                same("31: the greatest", x.sweep(kind, a, d, 100, 0), greatest);
                same("31: the first with it", x.sweep(kind, a, d, 100, 1), first);
                same("31: less than the latest ahead", x.sweep(kind, a, d, 100, 2), less);
                same("31: how many can't be", x.sweep(kind, a, d, 100, 3), not);
                x = Check.unit(SMALL);
            }
        }
    }
}
