/** The bounds that the document names for JOBS, CLOCKS, links, IMAGES and STATUS, sentence by sentence. */
public final class JobBoundsTest {
    private static final int NONE = TurnShifts.NONE;
    private static final int HIDDEN = TurnShifts.HIDDEN;
    private static final int MIN = Integer.MIN_VALUE;
    private static final int MAX = Integer.MAX_VALUE;
    private static final String SMALL = "width 6;guard 0;stages 5";
    private static final int[] NOT_OF_THREE = {-1, 3, 4, MIN, MAX};
    private static final int[] NOT_OF_TWO = {-1, 2, 3, MIN, MAX};

    private JobBoundsTest() {
    }

    public static void main(String[] args) {
        newObject();
        ruleBounds();
        sixtyJobs();
        jobRefused();
        numbersStay();
        placesOfAllUnits();
        placesAndStages();
        whoIsBehindTheLastStage();
        clockBounds();
        doneAndThenBroughtIn();
        doneAfterOneMoreThanN();
        failedOnesTakeAClock();
        failedOnesWaitForThePlace();
        outOfBoundsAsItIsBroughtIn();
        lastOfSixty();
        linksOfDroppedOnes();
        linksThatAreNotNamed();
        linksThatMustWait();
        putInTillThen();
        heldClocks();
        holdRefused();
        dropRefused();
        dropped();
        linkRefused();
        linkAgain();
        linkedBounds();
        toldBounds();
        resultBounds();
        traceBounds();
        signsBounds();
        registerAndPlaceBounds();
        allOverBounds();
        imageBounds();
        imageOfAnotherUnit();
        imageKeepsAll();
        waitsBounds();
        statusOfSeveral();
        statusOfOthers();
        mostBounds();
        mostClocks();
        fiveHundredTwelveCalls();
        Check.end();
    }

    private static void same(String what, long got, long want) {
        Check.same(what, got, want);
    }

    private static void small(TurnShifts x) {
        Check.tape(x, SMALL);
        x.unit();
    }

    private static void with(TurnShifts x, int jobs) {
        small(x);
        for (int job = 0; job < jobs; job++) {
            x.job(4, job, 0, 0);
        }
    }

    /** Job 0 DONE, 1 FAILED (dropped), 2 UNDER WAY, 3 FAILED as it was brought in, 4 and 5 WAIT, 5 LINKED to 2 and 4. */
    private static void busy(TurnShifts x) {
        small(x);
        x.job(0, 20, 0, 0);
        x.job(4, 30, 0, 0);
        x.drop(1);
        x.clock(3);
        x.image();
        x.clock(4);
        x.job(2, 30, 40, 0);
        x.job(4, 1, 0, 0);
        x.job(8, 5, 6, 7);
        x.job(3, 9, 9, 9);
        x.link(3, 0, 1, 0);
        x.link(5, 0, 2, 0);
        x.link(5, 1, 4, 1);
        x.clock(2);
        Check.tape(x, "sine 1;bow @0");
    }

    /** "No UNIT.": what is refused is counted, all else tells so without being counted. */
    private static void newObject() {
        Watch.Calls empty = x -> { };
        Watch.refused("14: no unit", empty, x -> x.job(0, 0, 0, 0), NONE, 0);
        Watch.refused("14: no unit ahead of no such kind, out of bounds", empty, x -> x.job(9, MAX, MAX, MAX), NONE, 0);
        Watch.refused("15: no unit", empty, x -> x.orders(), NONE, 0);
        Watch.refused("16: no unit", empty, x -> Watch.truth(x.drop(0)), 0, 0);
        Watch.refused("17: no unit", empty, x -> Watch.truth(x.link(1, 0, 0, 0)), 0, 0);
        Watch.refused("17: no unit ahead of no such what", empty, x -> Watch.truth(x.link(0, 9, 0, 9)), 0, 0);
        Watch.refused("19: no unit", empty, x -> x.clock(1), NONE, 0);
        Watch.refused("19: no unit ahead of no such n", empty, x -> x.clock(0), NONE, 0);
        Watch.refused("20: no unit", empty, x -> Watch.truth(x.hold(true)), 0, 0);
        Watch.refused("20: no unit ahead of it is so", empty, x -> Watch.truth(x.hold(false)), 0, 0);
        Watch.asks("18: no unit", empty, x -> x.linked(0, 0), NONE);
        Watch.asks("21: no unit", empty, x -> Watch.told(x, 0, 0), Long.MAX_VALUE);
        Watch.asks("22: no unit", empty, x -> x.result(0, 0), HIDDEN);
        Watch.asks("23: no unit", empty, x -> x.trace(0, 0, 0), Long.MIN_VALUE);
        Watch.asks("24: no unit", empty, x -> x.signs(0), NONE);
        Watch.asks("25: no unit", empty, x -> x.register(0), NONE);
        Watch.asks("26: no unit", empty, x -> x.place(0), NONE);
        Watch.asks("27: no unit", empty, x -> x.allOver(), NONE);
        Watch.asks("32: no unit", empty, x -> x.image(), NONE);
        Watch.asks("33: no unit", empty, x -> x.back(), NONE);
        Watch.asks("34: no unit", empty, x -> x.waits(NONE), NONE);
        Watch.asks("34: no unit", empty, x -> x.waits(0), NONE);
        for (int what = 0; what < 12; what++) {
            int w = what;
            Watch.asks("6: no unit", empty, x -> x.rule(w), NONE);
        }
        for (int what = 0; what < 4; what++) {
            int w = what;
            Watch.asks("36: no unit", empty, x -> x.most(w), NONE);
            Watch.asks("35: nothing yet", empty, x -> x.status(w), 0);
        }
        Watch.asks("37: nothing yet", empty, x -> x.count(0), 0);
    }

    /** "NONE: no UNIT, no such what.": 0 to 11. */
    private static void ruleBounds() {
        int[] due = {6, 0, 5, 5, 0, 9, 6, 2, 1, 1, 0, 2};
        TurnShifts x = new TurnShifts();
        busy(x);
        for (int what = 0; what < due.length; what++) {
            same("6: rule " + what, x.rule(what), due[what]);
        }
        x.hold(true);
        same("6: held", x.rule(10), 1);
        for (int what : new int[] {-1, 12, MIN, MAX}) {
            same("6: no such what", x.rule(what), NONE);
        }
    }

    /** "JOBS are numbered (60 at most)". */
    private static void sixtyJobs() {
        TurnShifts x = Check.unit(SMALL);
        for (int job = 0; job < 60; job++) {
            same("14: its number", x.job(job % 9, 1, 1, 1), job);
            same("6: jobs", x.rule(6), job + 1);
        }
        same("14: there are 60", x.job(0, 0, 0, 0), NONE);
        same("14: the last one is told of", x.told(59, 0), 59 % 9);
        same("21: no more", Watch.told(x, 60, 0), Long.MAX_VALUE);
        same("27: all of them", x.allOver(), 60 + 6);
        x.clock(100);
        same("6: all of them", x.rule(9), 60);
        for (int stage = 0; stage <= 5; stage++) {
            same("25: nobody any more", x.register(stage), NONE);
            same("26: nobody any more", x.place(stage), NONE);
        }
        same("34: nobody any more", x.waits(0), NONE);
        same("27: now", x.allOver(), 0);
        same("19: nobody any more", x.clock(1), 0);
        Check.no("16: it doesn't wait", x.drop(59));
    }

    private static void jobRefused() {
        Watch.Calls full = x -> with(x, 60);
        Watch.refused("14: there are 60", full, x -> x.job(4, 1, 0, 0), NONE, 2);
        Watch.refused("14: out of bounds ahead of that", full, x -> x.job(4, 65, 0, 0), NONE, 1);
        Watch.refused("14: no such kind ahead of that", full, x -> x.job(9, 65, 0, 0), NONE, 0);
        Watch.refused("14: no such kind ahead of that", full, x -> x.job(-1, 65, 0, 0), NONE, 0);
        Watch.refused("14: out of bounds", JobBoundsTest::busy, x -> x.job(4, 65, 0, 0), NONE, 1);
        Watch.refused("14: out of bounds", JobBoundsTest::busy, x -> x.job(4, -65, 0, 0), NONE, 1);
        Watch.refused("14: no such kind", JobBoundsTest::busy, x -> x.job(9, 1, 1, 1), NONE, 0);
    }

    /** A JOB that is over keeps its number: 60 at most, whatever became of them. */
    private static void numbersStay() {
        TurnShifts x = new TurnShifts();
        with(x, 59);
        for (int job = 0; job < 30; job++) {
            x.drop(job);
        }
        x.clock(100);
        same("4: none is left", x.rule(7) + x.rule(8), 0);
        x.image();
        same("14: the 60th", x.job(0, 0, 0, 0), 59);
        same("14: there are 60", x.job(0, 0, 0, 0), NONE);
        same("35: 2", x.status(2), 1);
        x.back();
        same("33: one less", x.job(4, 7, 0, 0), 59);
        same("33: the newer one", x.told(59, 0), 4);
        x.clock(20);
        same("4: done", x.told(59, 4), 2);
        x.back();
        same("33: the same number again", x.job(6, 8, 9, 10), 59);
        int[] fresh = {6, 8, 9, 10, 0, 0, NONE, NONE, 2, 0};
        for (int what = 0; what < 10; what++) {
            same("33: nothing of the one that had it, told " + what, x.told(59, what), fresh[what]);
        }
        same("22: nothing of the one that had it", x.result(59, 0), HIDDEN);
        same("27: one alone", x.allOver(), 7);
        Check.tape(x, SMALL);
        x.unit();
        same("5: no jobs", x.job(0, 0, 0, 0), 0);
    }

    /**
     * "who is ahead of STAGE j stands in the PLACE j modulo their number", "unless somebody ahead of a STAGE stands in
     * PLACE 0 then": of jobs that all wait, as many as there are PLACES come in one behind the other; then those come
     * round, till the first of them is behind the last STAGE at a CLOCK in which it would stand in PLACE 0.
     */
    private static void placesOfAllUnits() {
        int jobs = 14;
        for (int stages = 5; stages <= 24; stages++) {
            for (int fold = 0; fold <= 12; fold++) {
                TurnShifts x = Check.unit("width 6;stages " + stages + (fold == 0 ? "" : ";fold " + fold));
                int places = fold == 0 ? stages : fold;
                same("6: places", x.rule(3), places);
                int round = (stages + places - 1) / places * places;
                for (int job = 0; job < jobs; job++) {
                    x.job(0, 0, 0, 0);
                }
                int last = 1 + (jobs - 1) / places * round + (jobs - 1) % places;
                same("27: all over", x.allOver(), last + stages + 1);
                for (int n = 0; n < 4; n++) {
                    x.clock(100);
                }
                for (int job = 0; job < jobs; job++) {
                    int in = 1 + job / places * round + job % places;
                    same("21: brought in, fold " + fold, x.told(job, 6), in);
                    same("21: done, fold " + fold, x.told(job, 7), in + stages + 1);
                }
            }
        }
    }

    /** PLACES and STAGES clock by clock. */
    private static void placesAndStages() {
        for (int fold : new int[] {1, 2, 3, 5, 6, 12}) {
            TurnShifts x = Check.unit(SMALL + ";fold " + fold);
            int round = (5 + fold - 1) / fold * fold;
            for (int job = 0; job < 4; job++) {
                x.job(0, 0, 0, 0);
            }
            for (int clock = 1; clock <= 16; clock++) {
                x.clock(1);
                int[] at = new int[6];
                int[] place = new int[fold];
                java.util.Arrays.fill(at, NONE);
                java.util.Arrays.fill(place, NONE);
                for (int job = 0; job < 4; job++) {
                    int gone = clock - (1 + job / fold * round + job % fold);
                    if (gone >= 0 && gone <= 5) {
                        at[gone] = job;
                    }
                    if (gone >= 0 && gone < 5) {
                        place[gone % fold] = job;
                    }
                }
                for (int stage = 0; stage <= 5; stage++) {
                    same("25: fold " + fold + " clock " + clock, x.register(stage), at[stage]);
                }
                for (int p = 0; p < fold; p++) {
                    same("26: fold " + fold + " clock " + clock, x.place(p), place[p]);
                }
            }
        }
    }

    /** "N: behind the last": UNDER WAY still, in no PLACE, no RESULT yet; DONE in the next CLOCK, then nowhere. */
    private static void whoIsBehindTheLastStage() {
        TurnShifts x = new TurnShifts();
        with(x, 1);
        x.clock(5);
        same("25: ahead of the last", x.register(4), 0);
        same("26: ahead of the last", x.place(4), 0);
        x.clock(1);
        same("25: behind the last", x.register(5), 0);
        same("25: not ahead of the last", x.register(4), NONE);
        for (int place = 0; place < 5; place++) {
            same("26: in no place", x.place(place), NONE);
        }
        same("21: under way", x.told(0, 4), 1);
        same("21: all stages", x.told(0, 5), 5);
        same("21: not done yet", x.told(0, 7), NONE);
        same("22: not done yet", x.result(0, 0), HIDDEN);
        same("36: not done yet", x.most(3), 0);
        Check.yes("23: N: behind the last", x.trace(0, 5, 0) != Long.MIN_VALUE);
        same("27: one clock more", x.allOver(), 1);
        same("19: done in it", x.clock(1), 1);
        same("25: nowhere", x.register(5), NONE);
        same("21: done", x.told(0, 4), 2);
        Check.yes("22: done", x.result(0, 0) != HIDDEN);
        same("36: done", x.most(3), 15);
        same("27: now", x.allOver(), 0);
    }

    /** "n CLOCKS (1 to 100)", "NONE: .. out of bounds (1)." */
    private static void clockBounds() {
        for (int n : new int[] {0, 101, -1, MIN, MAX}) {
            Watch.refused("19: " + n, JobBoundsTest::busy, x -> x.clock(n), NONE, 1);
        }
        TurnShifts x = new TurnShifts();
        with(x, 60);
        same("19: one", x.clock(1), 0);
        same("6: one", x.rule(5), 1);
        same("19: a hundred", x.clock(100), 60);
        same("6: a hundred and one", x.rule(5), 101);
        same("19: nobody is done", x.clock(100), 0);
        same("6: counted", x.rule(5), 201);
        TurnShifts y = new TurnShifts();
        with(y, 60);
        same("19: how many are done in them", y.clock(7), 1);
        same("19: how many are done in them", y.clock(3), 3);
        Watch.alike("19: n clocks are n times one", z -> {
            with(z, 5);
            z.clock(9);
        }, z -> {
            with(z, 5);
            for (int i = 0; i < 9; i++) {
                z.clock(1);
            }
        });
    }

    /** (1) ahead of (3): one that is LINKED comes in in the CLOCK in which the other is DONE. */
    private static void doneAndThenBroughtIn() {
        for (String way : new String[] {"", ";fold 1", ";fold 5", ";fold 12"}) {
            TurnShifts x = Check.unit(SMALL + way);
            x.job(0, 0, 0, 0);
            x.job(4, 0, 0, 0);
            x.link(1, 0, 0, 1);
            same("27: one behind the other", x.allOver(), 1 + 6 + 6);
            x.clock(6);
            same("4: still waits", x.told(1, 4), 0);
            same("21: 0 till then", x.told(1, 1), 0);
            x.clock(1);
            same("4: done", x.told(0, 7), 7);
            same("4: brought in", x.told(1, 6), 7);
            same("4: put in", x.told(1, 1), x.result(0, 1));
        }
    }

    /** "(So one brought in in a CLOCK is DONE in the one N and 1 behind it.)" */
    private static void doneAfterOneMoreThanN() {
        for (int stages = 5; stages <= 24; stages++) {
            TurnShifts x = Check.unit("width 6;stages " + stages);
            x.clock(3);
            x.job(0, 0, 0, 0);
            same("27: all over", x.allOver(), 1 + stages + 1);
            same("19: not done yet", x.clock(stages + 1), 0);
            same("19: done", x.clock(1), 1);
            same("21: brought in", x.told(0, 6), 4);
            same("21: done", x.told(0, 7), 4 + stages + 1);
            same("21: stages", x.told(0, 5), stages);
        }
    }

    /** "it FAILED: it isn't UNDER WAY (nobody else comes in this CLOCK)." */
    private static void failedOnesTakeAClock() {
        TurnShifts x = new TurnShifts();
        with(x, 5);
        x.drop(0);
        for (int job = 1; job < 4; job++) {
            x.link(job, 0, job - 1, 0);
        }
        same("27: three fail, one comes through", x.allOver(), 3 + 1 + 6);
        for (int clock = 1; clock <= 3; clock++) {
            same("19: nobody is done", x.clock(1), 0);
            same("21: failed", x.told(clock, 4), 3);
            same("21: the clock of that", x.told(clock, 6), clock);
            same("21: never done", x.told(clock, 7), NONE);
            same("21: no stages", x.told(clock, 5), 0);
            same("6: nobody under way", x.rule(8), 0);
            same("25: nobody", x.register(0), NONE);
            same("26: nobody", x.place(0), NONE);
            same("6: failed", x.rule(11), clock + 1);
            same("6: wait", x.rule(7), 4 - clock);
        }
        x.clock(1);
        same("21: brought in", x.told(4, 6), 4);
        same("25: ahead of stage 0", x.register(0), 4);
        same("21: dropped ones take no clock", x.told(0, 6), NONE);
        x.clock(6);
        same("36: failed ones aren't done", x.most(3), 15);
        same("36: failed ones aren't done", x.most(2), 10);
    }

    /** One that will fail is brought in as others are: not while somebody stands in PLACE 0. */
    private static void failedOnesWaitForThePlace() {
        TurnShifts x = Check.unit(SMALL + ";fold 1");
        x.job(0, 0, 0, 0);
        x.job(0, 0, 0, 0);
        x.job(4, 0, 0, 0);
        x.drop(0);
        x.link(2, 0, 0, 0);
        x.clock(5);
        same("4: the place is taken", x.told(2, 4), 0);
        x.clock(1);
        same("4: failed", x.told(2, 4), 3);
        same("4: in clock 6", x.told(2, 6), 6);
    }

    /** "or out of bounds as it is brought in, it FAILED": the last that may be put in, the first that may not. */
    private static void outOfBoundsAsItIsBroughtIn() {
        String unit = "width 6;guard 4;stages 14;near";
        int[][] all = {{4, 64, 1}, {4, 65, 0}, {4, -64, 1}, {4, -65, 0}, {5, 256, 1}, {5, 257, 0}, {5, -256, 1}, {5, -257, 0},
            {6, 1, 1}, {6, 0, 0}, {7, 1, 1}, {7, 0, 0}, {7, -1, 0}, {6, 2048, 1}, {6, 2049, 0}, {0, 2048, 1}, {0, 2049, 0},
            {0, -2048, 1}, {0, -2049, 0}, {2, 1024, 1}, {2, 1025, 0}, {3, 1024, 1}, {3, 1025, 0}, {8, -1024, 1}, {8, -1025, 0}};
        for (int[] w : all) {
            TurnShifts x = Check.unit(unit);
            int[] source = sourceOf(unit, w[1]);
            x.job(2, source[0], source[1], 0);
            x.job(w[0], 1, 1000, 0);
            x.link(1, 0, 0, 0);
            same("27: kind " + w[0] + " of " + w[1], x.allOver(), w[2] == 1 ? 16 + 15 : 16);
            x.clock(16);
            String what = "4: kind " + w[0] + " of " + w[1];
            same(what + ": the result", x.result(0, 0), w[1]);
            same(what + ": put in", x.told(1, 1), w[1]);
            same(what + ": the clock", x.told(1, 6), 16);
            same(what, x.told(1, 4), w[2] == 1 ? 1 : 3);
            same(what + ": trace", x.trace(1, 0, 0) != Long.MIN_VALUE ? 1 : 0, w[2]);
            same(what + ": signs", x.signs(1), w[2] == 1 ? 0 : NONE);
            same(what + ": register", x.register(0), w[2] == 1 ? 1 : NONE);
        }
    }

    /** The same for the last two of 60, that an IMAGE brings back, and for the RESULTS of a JOB of which c is asked. */
    private static void lastOfSixty() {
        TurnShifts x = new TurnShifts();
        with(x, 58);
        x.job(8, 40, 30, 77);
        x.job(8, 1, 1, 1);
        x.link(59, 0, 58, 0);
        x.link(59, 1, 58, 1);
        x.link(59, 2, 57, 1);
        same("32: no clocks", x.image(), 0);
        same("27: all over", x.allOver(), 59 + 6 + 6);
        for (int again = 0; again < 2; again++) {
            x.clock(65);
            same("22: RESULT 0", x.result(58, 0), x.value(8, 40, 30, 77, 0));
            same("22: RESULT 1", x.result(58, 1), x.value(8, 40, 30, 77, 1));
            Check.yes("22: c is asked", x.result(58, 0) != x.value(8, 40, 30, 30, 0));
            same("4: put in", x.told(59, 1), x.result(58, 0));
            same("4: put in", x.told(59, 2), x.result(58, 1));
            same("4: put in", x.told(59, 3), x.result(57, 1));
            same("33: back", x.back(), 0);
            for (int what = 1; what < 4; what++) {
                same("33: 0 till then", x.told(59, what), 0);
            }
            same("33: as it was told", x.told(58, 3), 77);
            x.clock(71);
            same("4: the last one is done", x.told(59, 7), 71);
            same("33: back", x.back(), 0);
            int[] waits = {0, 0, NONE, NONE};
            for (int what = 4; what < 8; what++) {
                same("33: it waits again, told " + what, x.told(59, what), waits[what - 4]);
            }
        }
        TurnShifts y = new TurnShifts();
        with(y, 58);
        y.job(2, 128, 64, 0);
        y.job(4, 0, 0, 0);
        y.link(59, 0, 58, 0);
        same("27: the last one fails", y.allOver(), 59 + 6);
        y.clock(65);
        same("4: the last one failed", y.told(59, 4), 3);
    }

    /** A JOB that was dropped is brought in no more: what it is LINKED to holds nobody up. */
    private static void linksOfDroppedOnes() {
        TurnShifts x = new TurnShifts();
        with(x, 4);
        x.link(2, 0, 1, 0);
        x.link(2, 1, 0, 0);
        x.link(2, 2, 1, 1);
        x.drop(2);
        x.clock(3);
        same("4: the next one", x.told(3, 6), 3);
        same("27: all over", x.allOver(), 6);
    }

    /** Some a, b of which TIMES makes just this. */
    private static int[] sourceOf(String unit, int wanted) {
        for (int b = 60; b < 400; b++) {
            TurnShifts x = Check.unit(unit);
            for (int a = wanted * 64 / b - 3; a <= wanted * 64 / b + 3; a++) {
                if (x.value(2, a, b, 0, 0) == wanted) {
                    return new int[] {a, b};
                }
            }
        }
        same("nothing makes " + wanted, 0, 1);
        return new int[] {0, 0};
    }

    /** "a, b or c of a JOB": one that the KIND doesn't name is put in all the same, and isn't asked. */
    private static void linksThatAreNotNamed() {
        TurnShifts x = new TurnShifts();
        small(x);
        x.job(2, 1024, 1024, 0);
        x.job(4, 5, 6, 7);
        Check.yes("17: b", x.link(1, 1, 0, 0));
        Check.yes("17: c", x.link(1, 2, 0, 1));
        x.clock(6);
        same("4: waits", x.told(1, 4), 0);
        x.clock(1);
        same("4: not asked", x.told(1, 4), 1);
        same("4: a", x.told(1, 1), 5);
        same("4: b", x.told(1, 2), x.result(0, 0));
        Check.yes("4: b would be out of bounds", x.told(1, 2) > 2048);
        same("4: c", x.told(1, 3), 0);
        TurnShifts y = new TurnShifts();
        with(y, 2);
        y.link(1, 2, 0, 0);
        y.drop(1);
        y.drop(0);
        y.job(4, 1, 0, 0);
        y.link(2, 2, 0, 0);
        y.clock(1);
        same("4: linked to one that failed", y.told(2, 4), 3);
    }

    /** "or one to which it is LINKED still WAITS, is UNDER WAY": each of the three, till the last one is DONE. */
    private static void linksThatMustWait() {
        for (int what = 0; what < 3; what++) {
            TurnShifts x = new TurnShifts();
            with(x, 3);
            x.job(8, 1, 1, 1);
            x.job(0, 0, 0, 0);
            x.link(3, what, 2, 0);
            x.link(3, (what + 1) % 3, 0, 0);
            x.clock(8);
            same("4: waits", x.told(3, 4), 0);
            same("4: waits in their order", x.told(4, 4), 0);
            x.clock(1);
            same("4: brought in", x.told(3, 6), 9);
            x.clock(1);
            same("4: the next one", x.told(4, 6), 10);
        }
        TurnShifts y = new TurnShifts();
        with(y, 4);
        y.drop(0);
        y.link(3, 0, 0, 0);
        y.link(3, 1, 2, 0);
        y.clock(7);
        same("4: one failed, one is under way: it waits", y.told(3, 4), 0);
        y.clock(1);
        same("4: then it failed", y.told(3, 4), 3);
        same("4: then it failed", y.told(3, 6), 8);
    }

    /** "it is put in as it is brought in (0 till then)". */
    private static void putInTillThen() {
        for (int what = 0; what < 3; what++) {
            TurnShifts x = Check.unit(SMALL);
            x.job(0, 0, 0, 0);
            x.job(8, 11, 12, 13);
            x.link(1, what, 0, 0);
            for (int other = 0; other < 3; other++) {
                same("21: 0 till then", x.told(1, 1 + other), other == what ? 0 : 11 + other);
            }
            x.clock(7);
            for (int other = 0; other < 3; other++) {
                same("21: put in", x.told(1, 1 + other), other == what ? 64 : 11 + other);
                same("18: still told", x.linked(1, other), other == what ? 0 : NONE);
            }
        }
    }

    /** "CLOCKS do nothing while the UNIT is HELD (but are counted)." */
    private static void heldClocks() {
        TurnShifts x = new TurnShifts();
        busy(x);
        x.hold(true);
        int over = x.allOver();
        same("19: nobody is done", x.clock(1), 0);
        same("6: counted", x.rule(5), 10);
        same("19: nobody is done", x.clock(99), 0);
        same("6: counted", x.rule(5), 109);
        same("27: were it not held", x.allOver(), over);
        same("6: held still", x.rule(10), 1);
        int[] states = {2, 3, 1, 3, 0, 0};
        int[] stages = {5, 0, 1, 0, 0, 0};
        for (int job = 0; job < 6; job++) {
            same("21: state", x.told(job, 4), states[job]);
            same("21: stages", x.told(job, 5), stages[job]);
        }
        same("25: where it was", x.register(1), 2);
        Check.yes("20: not held", x.hold(false));
        same("19: done in them", x.clock(over), 3);
        same("27: now", x.allOver(), 0);
        same("21: brought in behind that", x.told(4, 6), 110);
        TurnShifts y = new TurnShifts();
        with(y, 1);
        y.hold(true);
        y.clock(1);
        same("4: none is brought in", y.told(0, 4), 0);
        y.hold(false);
        y.clock(1);
        same("21: the clock", y.told(0, 6), 2);
    }

    /** "False: no UNIT (STATUS 0), it is so (3)." */
    private static void holdRefused() {
        Watch.refused("20: it is so", JobBoundsTest::busy, x -> Watch.truth(x.hold(false)), 0, 3);
        Watch.refused("20: it is so", x -> {
            busy(x);
            x.hold(true);
        }, x -> Watch.truth(x.hold(true)), 0, 3);
        TurnShifts x = Check.unit(SMALL);
        Check.yes("20: held", x.hold(true));
        same("6: held", x.rule(10), 1);
        Check.yes("20: not held", x.hold(false));
        same("6: not held", x.rule(10), 0);
        same("35: none was refused", x.status(3), 0);
    }

    /** "False: no such JOB (STATUS 0), it doesn't WAIT, one that WAITS is LINKED to it (3)." */
    private static void dropRefused() {
        for (int job : new int[] {-1, 6, 60, MIN, MAX}) {
            Watch.refused("16: no such job", JobBoundsTest::busy, x -> Watch.truth(x.drop(job)), 0, 0);
        }
        String[] why = {"done", "failed, dropped", "under way, and linked to", "failed", "one that waits is linked to it"};
        for (int job = 0; job < 5; job++) {
            int j = job;
            Watch.refused("16: " + why[job], JobBoundsTest::busy, x -> Watch.truth(x.drop(j)), 0, 3);
        }
        for (int what = 0; what < 3; what++) {
            int w = what;
            Watch.refused("16: linked to by " + what, x -> {
                with(x, 60);
                x.link(59, w, 0, 1);
            }, x -> Watch.truth(x.drop(0)), 0, 3);
        }
    }

    /** "A JOB that WAITS is dropped: it FAILED (it never was brought in): true." */
    private static void dropped() {
        TurnShifts x = new TurnShifts();
        busy(x);
        Check.yes("16: the last one", x.drop(5));
        same("21: failed", x.told(5, 4), 3);
        same("21: never brought in", x.told(5, 6), NONE);
        same("21: never done", x.told(5, 7), NONE);
        same("18: linked still", x.linked(5, 1), 9);
        same("23: no trace", x.trace(5, 0, 0), Long.MIN_VALUE);
        same("24: no signs", x.signs(5), NONE);
        same("22: no result", x.result(5, 0), HIDDEN);
        Check.yes("16: the one that waits no more is linked to it", x.drop(4));
        same("6: none waits", x.rule(7), 0);
        same("34: none waits", x.waits(0), NONE);
        same("27: the one under way", x.allOver(), 5);
        same("35: none was refused", x.status(3), 0);
        TurnShifts y = new TurnShifts();
        with(y, 60);
        Check.yes("16: the first", y.drop(0));
        Check.yes("16: the last", y.drop(59));
        y.clock(1);
        same("4: the first that waits", y.told(1, 6), 1);
        same("27: 58 of them", y.allOver(), 57 + 6);
    }

    /** "False: no such JOBS (STATUS 0), no such what, i, no lower number (1), it doesn't WAIT (3)." */
    private static void linkRefused() {
        for (int job : new int[] {-1, 6, 60, MIN, MAX}) {
            Watch.refused("17: no such job", JobBoundsTest::busy, x -> Watch.truth(x.link(job, 0, 0, 0)), 0, 0);
            Watch.refused("17: no such of", JobBoundsTest::busy, x -> Watch.truth(x.link(5, 0, job, 0)), 0, 0);
            Watch.refused("17: no such of ahead of all", JobBoundsTest::busy, x -> Watch.truth(x.link(0, 9, job, 9)), 0, 0);
        }
        for (int what : NOT_OF_THREE) {
            Watch.refused("17: no such what", JobBoundsTest::busy, x -> Watch.truth(x.link(5, what, 0, 0)), 0, 1);
            Watch.refused("17: no such what ahead of 3", JobBoundsTest::busy, x -> Watch.truth(x.link(2, what, 0, 0)), 0, 1);
        }
        for (int i : NOT_OF_TWO) {
            Watch.refused("17: no such i", JobBoundsTest::busy, x -> Watch.truth(x.link(5, 0, 0, i)), 0, 1);
            Watch.refused("17: no such i ahead of 3", JobBoundsTest::busy, x -> Watch.truth(x.link(2, 0, 0, i)), 0, 1);
        }
        Watch.refused("17: itself", JobBoundsTest::busy, x -> Watch.truth(x.link(4, 0, 4, 0)), 0, 1);
        Watch.refused("17: a higher one", JobBoundsTest::busy, x -> Watch.truth(x.link(4, 0, 5, 0)), 0, 1);
        Watch.refused("17: the first has no lower one", JobBoundsTest::busy, x -> Watch.truth(x.link(0, 0, 0, 0)), 0, 1);
        Watch.refused("17: a higher one ahead of 3", JobBoundsTest::busy, x -> Watch.truth(x.link(2, 0, 5, 0)), 0, 1);
        for (int job = 1; job < 4; job++) {
            int j = job;
            Watch.refused("17: it doesn't wait", JobBoundsTest::busy, x -> Watch.truth(x.link(j, 0, 0, 0)), 0, 3);
        }
    }

    /** All that may be: each what, each i, each lower one (DONE, FAILED, UNDER WAY, WAITS), again instead. */
    private static void linkAgain() {
        TurnShifts x = new TurnShifts();
        busy(x);
        for (int of = 0; of < 5; of++) {
            for (int what = 0; what < 3; what++) {
                for (int i = 0; i < 2; i++) {
                    Check.yes("17: may be", x.link(5, what, of, i));
                    same("18: twice the number, and i", x.linked(5, what), 2 * of + i);
                    same("21: 0 till then", x.told(5, 1 + what), 0);
                }
            }
        }
        same("35: none was refused", x.status(0) + x.status(1) + x.status(2) + x.status(3), 0);
        TurnShifts y = new TurnShifts();
        with(y, 3);
        y.link(2, 0, 0, 0);
        Check.no("16: linked to", y.drop(0));
        y.link(2, 0, 1, 0);
        Check.no("16: linked to", y.drop(1));
        Check.yes("16: linked to no more", y.drop(0));
        TurnShifts z = new TurnShifts();
        with(z, 60);
        Check.yes("17: the last to the last but one", z.link(59, 2, 58, 1));
        same("18: the last to the last but one", z.linked(59, 2), 117);
    }

    /** "NONE: to none, no such ones." */
    private static void linkedBounds() {
        for (int job : new int[] {-1, 6, 60, MIN, MAX}) {
            Watch.asks("18: no such job", JobBoundsTest::busy, x -> x.linked(job, 0), NONE);
        }
        for (int what : NOT_OF_THREE) {
            Watch.asks("18: no such what", JobBoundsTest::busy, x -> x.linked(5, what), NONE);
        }
        int[][] due = {{NONE, NONE, NONE}, {NONE, NONE, NONE}, {NONE, NONE, NONE}, {2, NONE, NONE}, {NONE, NONE, NONE},
            {4, 9, NONE}};
        for (int job = 0; job < 6; job++) {
            for (int what = 0; what < 3; what++) {
                int j = job;
                int w = what;
                Watch.asks("18: linked(" + job + ", " + what + ")", JobBoundsTest::busy, x -> x.linked(j, w), due[job][what]);
            }
        }
    }

    /** "NoSuchElementException: no such ones." */
    private static void toldBounds() {
        for (int job : new int[] {-1, 6, 60, MIN, MAX}) {
            Watch.asks("21: no such job", JobBoundsTest::busy, x -> Watch.told(x, job, 0), Long.MAX_VALUE);
            Watch.asks("21: no such job", JobBoundsTest::busy, x -> Watch.told(x, job, 9), Long.MAX_VALUE);
        }
        for (int what : new int[] {-1, 10, MIN, MAX}) {
            Watch.asks("21: no such what", JobBoundsTest::busy, x -> Watch.told(x, 0, what), Long.MAX_VALUE);
        }
        int[][] due = {{0, 20, 0, 0, 2, 5, 1, 7, 0, 1}, {4, 30, 0, 0, 3, 0, NONE, NONE, 2, 1}, {2, 30, 40, 0, 1, 1, 8, NONE, 1, 1},
            {4, 0, 0, 0, 3, 0, 9, NONE, 2, 1}, {8, 5, 6, 7, 0, 0, NONE, NONE, 0, 1}, {3, 0, 0, 9, 0, 0, NONE, NONE, 1, 0}};
        TurnShifts x = new TurnShifts();
        busy(x);
        for (int job = 0; job < 6; job++) {
            for (int what = 0; what < 10; what++) {
                same("21: told(" + job + ", " + what + ")", Watch.told(x, job, what), due[job][what]);
            }
        }
        TurnShifts y = Check.unit(SMALL);
        for (int kind = 0; kind < 9; kind++) {
            y.job(kind, 1, 1, 1);
            same("21: MODE", y.told(kind, 8), new int[] {0, 0, 1, 1, 2, 2, 2, 2, 0}[kind]);
            same("21: TURNING", y.told(kind, 9), new int[] {1, 0, 1, 0, 1, 1, 0, 0, 1}[kind]);
        }
    }

    /** "RESULT i of a JOB that is DONE. HIDDEN: no such ones." */
    private static void resultBounds() {
        for (int i : NOT_OF_TWO) {
            Watch.asks("22: no such i", JobBoundsTest::busy, x -> x.result(0, i), HIDDEN);
        }
        for (int job : new int[] {-1, 1, 2, 3, 4, 5, 6, 60, MIN, MAX}) {
            Watch.asks("22: no such one that is done", JobBoundsTest::busy, x -> x.result(job, 0), HIDDEN);
            Watch.asks("22: no such one that is done", JobBoundsTest::busy, x -> x.result(job, 1), HIDDEN);
        }
        TurnShifts x = new TurnShifts();
        busy(x);
        same("22: RESULT 0", x.result(0, 0), x.value(0, 20, 0, 0, 0));
        same("22: RESULT 1", x.result(0, 1), x.value(0, 20, 0, 0, 1));
    }

    /** "(stage 0 to N; N: behind the last), as far as it has come. Long.MIN_VALUE: no such ones." */
    private static void traceBounds() {
        TurnShifts x = new TurnShifts();
        with(x, 1);
        same("23: waits", x.trace(0, 0, 0), Long.MIN_VALUE);
        for (int gone = 0; gone <= 6; gone++) {
            x.clock(1);
            int far = Math.min(gone, 5);
            for (int stage = 0; stage <= 7; stage++) {
                for (int what = 0; what < 3; what++) {
                    same("23: stage " + stage + " behind " + gone + " clocks",
                        x.trace(0, stage, what) != Long.MIN_VALUE ? 1 : 0, stage <= far ? 1 : 0);
                }
            }
            for (int none : new int[] {-1, 24, MIN, MAX}) {
                same("23: no such stage", x.trace(0, none, 0), Long.MIN_VALUE);
            }
        }
        for (int what : NOT_OF_THREE) {
            Watch.asks("23: no such what", JobBoundsTest::busy, y -> y.trace(0, 0, what), Long.MIN_VALUE);
        }
        for (int job : new int[] {-1, 1, 3, 4, 5, 6, 60, MIN, MAX}) {
            Watch.asks("23: no such one that has begun", JobBoundsTest::busy, y -> y.trace(job, 0, 0), Long.MIN_VALUE);
        }
    }

    /** "d of a JOB in STAGES that it has gone through, as bits .. NONE: no such JOB, it WAITS, FAILED." */
    private static void signsBounds() {
        for (int job : new int[] {-1, 1, 3, 4, 5, 6, 60, MIN, MAX}) {
            Watch.asks("24: no such one", JobBoundsTest::busy, x -> x.signs(job), NONE);
        }
        TurnShifts x = Check.unit("width 22;guard 4;stages 24");
        x.job(4, 1 << 22, 0, 0);
        same("24: waits", x.signs(0), NONE);
        long z = 1L << 26;
        int bits = 0;
        for (int gone = 0; gone <= 25; gone++) {
            x.clock(1);
            same("24: as far as it has gone", x.signs(0), bits);
            if (gone < 24) {
                bits |= z >= 0 ? 1 << gone : 0;
                z -= z >= 0 ? x.stage(2, gone, 1) : -x.stage(2, gone, 1);
            }
        }
        same("24: done", x.told(0, 4), 2);
        TurnShifts y = Check.unit(SMALL);
        y.job(2, 5, 64, 0);
        y.job(2, 5, -64, 0);
        y.clock(30);
        // z: 64, then 0 behind the first stage, -32, -16, -8; -64, then 0, -32, ..
        same("24: STAGE 0 the lowest", y.signs(0), 3);
        same("24: STAGE 0 the lowest", y.signs(1), 2);
    }

    /** "(0 to N; N: behind the last). NONE: none, no such ones.", "a PLACE (0 on) .. NONE: nobody, no such one." */
    private static void registerAndPlaceBounds() {
        for (int stage : new int[] {-1, 6, 24, MIN, MAX}) {
            Watch.asks("25: no such stage", JobBoundsTest::busy, x -> x.register(stage), NONE);
        }
        for (int place : new int[] {-1, 5, 12, MIN, MAX}) {
            Watch.asks("26: no such place", JobBoundsTest::busy, x -> x.place(place), NONE);
        }
        TurnShifts x = new TurnShifts();
        busy(x);
        for (int stage = 0; stage <= 5; stage++) {
            same("25: who is there", x.register(stage), stage == 1 ? 2 : NONE);
        }
        for (int place = 0; place < 5; place++) {
            same("26: who is there", x.place(place), place == 1 ? 2 : NONE);
        }
        TurnShifts y = new TurnShifts();
        with(y, 9);
        y.clock(6);
        for (int stage = 0; stage <= 5; stage++) {
            same("25: all of them", y.register(stage), 5 - stage);
        }
    }

    /** "in how many CLOCKS from now nobody WAITS, is UNDER WAY (were it not HELD; 0: now)". */
    private static void allOverBounds() {
        Watch.asks("27: now", JobBoundsTest::small, x -> x.allOver(), 0);
        // Job 4 comes in in clock 10, is done in 16; job 5 comes in then, LINKED to 2 (done in 14) and 4.
        Watch.asks("27: changes nothing", JobBoundsTest::busy, x -> x.allOver(), 16 + 6 - 9);
        Watch.asks("27: held", x -> {
            busy(x);
            x.hold(true);
        }, x -> x.allOver(), 16 + 6 - 9);
        Watch.asks("27: all were dropped", x -> {
            with(x, 2);
            x.drop(0);
            x.drop(1);
        }, x -> x.allOver(), 0);
        TurnShifts x = new TurnShifts();
        busy(x);
        for (int left = 13; left > 0; left--) {
            same("27: one less each clock", x.allOver(), left);
            x.clock(1);
        }
        same("27: now", x.allOver(), 0);
        same("27: nobody", x.rule(7) + x.rule(8), 0);
        // The longest there can be: 60 jobs, each waits for the one ahead, 24 stages.
        TurnShifts y = Check.unit("width 6;stages 24");
        for (int job = 0; job < 60; job++) {
            y.job(4, 0, 0, 0);
            y.link(job, 1, job - 1, 1);
        }
        same("27: the longest", y.allOver(), 60 * 25 + 1);
        for (int n = 0; n < 15; n++) {
            y.clock(100);
        }
        same("27: one clock more", y.allOver(), 1);
        same("19: the last one", y.clock(1), 1);
        same("27: now", y.allOver(), 0);
    }

    /** "An IMAGE (instead of the one ahead): CLOCKS.", "All is so again: CLOCKS. NONE: no IMAGE of this UNIT." */
    private static void imageBounds() {
        Watch.asks("33: no image", x -> with(x, 3), x -> x.back(), NONE);
        TurnShifts x = new TurnShifts();
        with(x, 1);
        same("32: no clocks yet", x.image(), 0);
        x.clock(4);
        same("33: no clocks yet", x.back(), 0);
        same("33: waits", x.told(0, 4), 0);
        x.clock(4);
        same("33: the same one again", x.back(), 0);
        x.clock(4);
        same("32: instead", x.image(), 4);
        x.clock(40);
        same("33: the newer one", x.back(), 4);
        same("33: under way", x.told(0, 5), 3);
        same("33: the newer one again", x.back(), 4);
        same("35: nothing is counted", x.status(0) + x.status(1) + x.status(2) + x.status(3), 0);
    }

    private static void imageOfAnotherUnit() {
        TurnShifts x = new TurnShifts();
        with(x, 1);
        x.image();
        Check.tape(x, "width 6");
        same("5: a fault", x.unit(), NONE);
        same("33: the unit is the same", x.back(), 0);
        Check.tape(x, SMALL);
        same("5: a unit of the same text is another", x.unit(), 5);
        same("33: no image of this unit", x.back(), NONE);
        same("33: all stays", x.rule(6), 0);
        same("32: one of this unit", x.image(), 0);
        same("33: one of this unit", x.back(), 0);
    }

    /** "An IMAGE keeps JOBS, CLOCKS, whether it is HELD (not the TAPE, STATUS)." */
    private static void imageKeepsAll() {
        for (boolean held : new boolean[] {false, true}) {
            Watch.Calls before = x -> {
                busy(x);
                x.hold(held);
                x.image();
                x.end(0);
            };
            Watch.alike("33: all is so again", before, x -> {
                busy(x);
                x.hold(held);
                x.image();
                x.hold(!held);
                x.hold(false);
                x.clock(3);
                x.link(5, 2, 0, 0);
                x.drop(5);
                x.drop(4);
                x.orders();
                x.job(5, 1, 2, 3);
                x.clock(60);
                x.end(0);
                x.back();
            });
        }
        TurnShifts x = new TurnShifts();
        busy(x);
        x.image();
        x.job(9, 0, 0, 0);
        x.job(4, 99, 0, 0);
        x.hold(false);
        Check.tape(x, "log 7");
        x.back();
        same("33: not the tape", x.count(0), 5);
        same("33: not the tape", x.orders(), 1);
        same("33: not status", x.status(0), 1);
        same("33: not status", x.status(1), 1);
        same("33: not status", x.status(3), 1);
    }

    /** "The i-th JOB that WAITS (NONE: how many). NONE: no such one, no UNIT." */
    private static void waitsBounds() {
        for (int i : new int[] {-2, 2, 3, 59, 60, MIN, MAX}) {
            Watch.asks("34: no such one", JobBoundsTest::busy, x -> x.waits(i), NONE);
        }
        Watch.asks("34: the first", JobBoundsTest::busy, x -> x.waits(0), 4);
        Watch.asks("34: the last", JobBoundsTest::busy, x -> x.waits(1), 5);
        Watch.asks("34: how many", JobBoundsTest::busy, x -> x.waits(-1), 2);
        Watch.asks("34: how many: nobody", JobBoundsTest::small, x -> x.waits(-1), 0);
        Watch.asks("34: nobody", JobBoundsTest::small, x -> x.waits(0), NONE);
        TurnShifts x = new TurnShifts();
        with(x, 60);
        same("34: all", x.waits(-1), 60);
        same("34: all", x.waits(59), 59);
        same("34: all", x.waits(60), NONE);
        x.drop(30);
        same("34: one less", x.waits(-1), 59);
        same("34: behind it", x.waits(30), 31);
        same("34: the last", x.waits(58), 59);
        same("34: one less", x.waits(59), NONE);
    }

    /** "of several the first": a call that is refused is counted once. */
    private static void statusOfSeveral() {
        TurnShifts x = new TurnShifts();
        with(x, 60);
        x.link(59, 0, 58, 0);
        x.clock(1);
        int[] due = new int[4];
        x.job(9, 99, 0, 0);
        due[0]++;
        x.job(4, 99, 0, 0);
        due[1]++;
        x.job(4, 0, 0, 0);
        due[2]++;
        x.drop(60);
        due[0]++;
        x.drop(0);
        due[3]++;
        x.drop(58);
        due[3]++;
        x.link(60, 9, 60, 9);
        due[0]++;
        x.link(0, 9, 0, 9);
        due[1]++;
        x.link(0, 0, 0, 0);
        due[1]++;
        x.clock(0);
        due[1]++;
        x.clock(101);
        due[1]++;
        x.hold(false);
        due[3]++;
        x.orders();
        due[1]++;
        Check.tape(x, "bow 65");
        x.orders();
        due[1]++;
        Check.tape(x, "bow 64");
        x.orders();
        due[2]++;
        for (int what = 0; what < 4; what++) {
            same("35: status " + what, x.status(what), due[what]);
        }
        for (int what : new int[] {-1, 4, MIN, MAX}) {
            same("35: no such what", x.status(what), NONE);
        }
    }

    /** "(job(), link(), orders(), drop(), clock(), hold() alone.)" */
    private static void statusOfOthers() {
        TurnShifts x = new TurnShifts();
        busy(x);
        Check.tape(x, " ".repeat(399));
        x.feed(-1, -1, -1, -1, -1);
        x.end(-1);
        x.fault(9);
        x.unit();
        x.rule(99);
        x.constant(9);
        x.stage(9, 9, 9);
        x.mode(9, 9);
        x.digit(9, 99);
        x.takenOut(9, MAX);
        x.value(9, 1, 1, 1, 9);
        x.value(0, MAX, 1, 1, 0);
        x.off(9);
        x.linked(99, 9);
        Watch.told(x, 99, 99);
        x.result(99, 9);
        x.trace(99, 99, 9);
        x.signs(99);
        x.register(99);
        x.place(99);
        x.finest(9, 1, 1, 1, 9);
        x.apart(9, 1, 1, 1, 9);
        x.fewest(9, 9);
        x.sweep(9, 9, 9, 999, 9);
        x.waits(99);
        x.status(9);
        x.most(9);
        x.count(9);
        for (int what = 0; what < 4; what++) {
            same("35: not counted", x.status(what), 0);
        }
        // What is done isn't counted either.
        x.job(4, 1, 0, 0);
        x.link(6, 0, 0, 0);
        x.drop(6);
        x.clock(1);
        x.hold(true);
        for (int what = 0; what < 4; what++) {
            same("35: not counted", x.status(what), 0);
        }
    }

    /** "Of JOBS that are DONE .. NONE: no UNIT, no such what; 0 without." */
    private static void mostBounds() {
        for (int what : new int[] {-1, 4, MIN, MAX}) {
            Watch.asks("36: no such what", JobBoundsTest::busy, x -> x.most(what), NONE);
        }
        for (int what = 0; what < 4; what++) {
            int w = what;
            Watch.asks("36: without jobs", JobBoundsTest::small, x -> x.most(w), 0);
            Watch.asks("36: without any that is done", x -> {
                with(x, 3);
                x.drop(2);
                x.clock(6);
            }, x -> x.most(w), 0);
        }
        // One of each KIND alone: |z| or |y|, either way, three sums each or two.
        int[] sums = {15, 15, 10, 10, 15, 15, 15, 15, 15};
        int[][] below = new int[2][1];
        for (int kind = 0; kind < 9; kind++) {
            for (int a : new int[] {1, 9, 20, 63}) {
                TurnShifts x = Check.unit(SMALL);
                x.job(kind, a, 40, 50);
                x.clock(30);
                long z = x.trace(0, 5, 2);
                long y = x.trace(0, 5, 1);
                boolean turning = x.told(0, 9) == 1;
                same("36: |z| of those TURNING", x.most(0), turning ? Math.abs(z) : 0);
                same("36: |y| of those LEVELLING", x.most(1), turning ? 0 : Math.abs(y));
                same("36: sums", x.most(3), sums[kind]);
                below[turning ? 0 : 1][0] += (turning ? z : y) < 0 ? 1 : 0;
            }
        }
        Check.yes("there were some below 0", below[0][0] > 0 && below[1][0] > 0);
        TurnShifts x = Check.unit(SMALL);
        for (int kind = 0; kind < 9; kind++) {
            x.job(kind, 9, 40, 50);
        }
        x.clock(30);
        long z = 0;
        long y = 0;
        for (int job = 0; job < 9; job++) {
            z = x.told(job, 9) == 1 ? Math.max(z, Math.abs(x.trace(job, 5, 2))) : z;
            y = x.told(job, 9) == 0 ? Math.max(y, Math.abs(x.trace(job, 5, 1))) : y;
        }
        same("36: the greatest |z|", x.most(0), z);
        same("36: the greatest |y|", x.most(1), y);
        same("36: of all together", x.most(3), 7 * 15 + 2 * 10);
    }

    /** "the most CLOCKS that went by from the job() that told one till it was DONE". */
    private static void mostClocks() {
        TurnShifts x = Check.unit(SMALL);
        x.clock(50);
        x.job(4, 1, 0, 0);
        x.clock(6);
        same("36: not done yet", x.most(2), 0);
        x.clock(1);
        same("36: from job() on", x.most(2), 7);
        x.clock(50);
        same("36: till it was done", x.most(2), 7);
        Check.tape(x, "bow 1;bow @0'");
        x.orders();
        x.clock(50);
        same("36: the one that waited", x.most(2), 13);
        x.job(4, 1, 0, 0);
        x.hold(true);
        x.clock(10);
        x.hold(false);
        x.clock(10);
        same("36: held ones went by, too", x.most(2), 17);
        x.job(4, 1, 0, 0);
        x.clock(7);
        same("36: the most", x.most(2), 17);
    }

    /** "An object is used for at most 512 calls": the last of them is answered as the first. */
    private static void fiveHundredTwelveCalls() {
        TurnShifts x = new TurnShifts();
        x.feed(0x77696474, 0x6820363b, 0x67756172, 0x6420303b, 0x73746167);
        x.feed(0x65732035, 0, 0, 0, 0);
        x.unit();
        for (int job = 0; job < 60; job++) {
            x.job(4, job, 0, 0);
        }
        for (int call = 63; call < 510; call++) {
            x.clock(100);
        }
        same("the 511th", x.rule(5), 44700);
        same("the 512th", x.result(59, 0), Check.unit(SMALL).value(4, 59, 0, 0, 0));
    }
}
