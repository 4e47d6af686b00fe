import java.util.ArrayList;
import java.util.List;
import java.util.NoSuchElementException;

/**
 * All that an object tells, so that a call which must change nothing can be seen to change nothing. The same calls are
 * made on as many new objects as that takes: an object is used for at most 512 calls.
 */
final class Watch {
    private static final int ASKED_OF_ONE = 300;
    private static final long THROWN = Long.MAX_VALUE;

    /** Calls that bring a new object where a test wants it (at most 200 of them). */
    interface Calls {
        void on(TurnShifts x);
    }

    /** One call; a boolean counts 1 or 0. */
    interface Asked {
        long of(TurnShifts x);
    }

    private Watch() {
    }

    static long truth(boolean is) {
        return is ? 1 : 0;
    }

    /** A call that is refused: what it answers, that it leaves all as it was, and that STATUS counts it there alone. */
    static void refused(String what, Calls before, Asked call, long answer, int status) {
        TurnShifts x = new TurnShifts();
        before.on(x);
        long[] counted = new long[4];
        for (int i = 0; i < 4; i++) {
            counted[i] = x.status(i);
        }
        Check.same(what + ": it", call.of(x), answer);
        for (int i = 0; i < 4; i++) {
            Check.same(what + ": status " + i, x.status(i), counted[i] + (i == status ? 1 : 0));
        }
        alike(what, before, y -> {
            before.on(y);
            call.of(y);
        });
    }

    /** A call that only asks: nothing changes, STATUS neither. */
    static void asks(String what, Calls before, Asked call, long answer) {
        refused(what, before, call, answer, -1);
    }

    /** Whether two runs of calls bring a new object to the same state (but for STATUS). */
    static void alike(String what, Calls one, Calls other) {
        Calls[] then = {
            x -> { }, x -> x.back(), x -> x.orders(), x -> x.unit(), x -> x.clock(40),
            x -> {
                x.hold(false);
                x.clock(9);
            },
        };
        for (int i = 0; i < then.length; i++) {
            Calls next = then[i];
            List<Long> want = all(x -> {
                one.on(x);
                next.on(x);
            });
            List<Long> got = all(x -> {
                other.on(x);
                next.on(x);
            });
            Check.yes(what + ": all is as it was (then " + i + "), " + firstUnlike(got, want), got.equals(want));
        }
    }

    private static String firstUnlike(List<Long> got, List<Long> want) {
        for (int i = 0; i < got.size() && i < want.size(); i++) {
            if (!got.get(i).equals(want.get(i))) {
                return "answer " + i + " is " + got.get(i) + ", was " + want.get(i);
            }
        }
        return got.size() + " answers, " + want.size() + " were";
    }

    private static List<Long> all(Calls calls) {
        TurnShifts x = new TurnShifts();
        calls.on(x);
        List<Asked> questions = questions(x.rule(6), x.rule(2), x.rule(3));
        List<Long> answers = new ArrayList<>();
        for (int at = 0; at < questions.size(); at += ASKED_OF_ONE) {
            TurnShifts y = new TurnShifts();
            calls.on(y);
            for (Asked question : questions.subList(at, Math.min(questions.size(), at + ASKED_OF_ONE))) {
                answers.add(question.of(y));
            }
        }
        return answers;
    }

    private static List<Asked> questions(int jobs, int stages, int places) {
        List<Asked> all = new ArrayList<>();
        all.add(x -> x.count(0));
        all.add(x -> x.fault(0));
        all.add(x -> x.fault(1));
        all.add(x -> x.allOver());
        all.add(x -> x.value(8, 40, -30, 20, 1));
        all.add(x -> x.takenOut(2, 12345));
        for (int what = 0; what < 12; what++) {
            int w = what;
            all.add(x -> x.rule(w));
            all.add(x -> x.mode(w / 4, w % 4));
        }
        for (int what = 0; what < 4; what++) {
            int w = what;
            all.add(x -> x.most(w));
            all.add(x -> x.constant(w));
        }
        for (int i = -1; i <= jobs; i++) {
            int at = i;
            all.add(x -> x.waits(at));
        }
        for (int stage = 0; stage <= stages; stage++) {
            int at = stage;
            all.add(x -> x.register(at));
        }
        for (int place = 0; place < places; place++) {
            int at = place;
            all.add(x -> x.place(at));
        }
        for (int job = 0; job < jobs; job++) {
            ofJob(all, job, stages);
        }
        return all;
    }

    private static void ofJob(List<Asked> all, int job, int stages) {
        for (int what = 0; what < 10; what++) {
            int w = what;
            all.add(x -> told(x, job, w));
        }
        for (int what = 0; what < 3; what++) {
            int w = what;
            all.add(x -> x.linked(job, w));
            for (int stage = 0; stage <= stages; stage += stages) {
                int at = stage;
                all.add(x -> x.trace(job, at, w));
            }
        }
        all.add(x -> x.result(job, 0));
        all.add(x -> x.result(job, 1));
        all.add(x -> x.signs(job));
    }

    /** told(), or a number that it never answers where it throws. */
    static long told(TurnShifts x, int job, int what) {
        try {
            return x.told(job, what);
        } catch (NoSuchElementException e) {
            return THROWN;
        }
    }
}
