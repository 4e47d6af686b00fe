import java.util.NoSuchElementException;
import java.util.Random;

/** Long runs of calls, drawn from fixed seeds: each answer of TurnShifts is held against the Model's. */
public final class ModelTest {
    private static final int RUNS = Integer.getInteger("runs", 600);
    private static final int CALLS = 512;
    /** No step makes more calls than this: a text of 400 bytes fed, asked about and taken. */
    private static final int CALLS_OF_A_STEP = 30;
    private static final String[] WORDS =
        {"sine", "polar", "times", "over", "bow", "power", "log", "root", "turn"};
    private static final int[] NAMES = {1, 2, 2, 2, 1, 1, 1, 1, 3};

    private static long wrong;
    private static long calls;

    private final Random random;
    private final StringBuilder past = new StringBuilder();
    private TurnShifts mine;
    private Model due;
    private int made;
    private boolean stop;

    private ModelTest(long seed) {
        random = new Random(seed);
    }

    public static void main(String[] args) {
        for (long seed = 1; seed <= RUNS && wrong < 5; seed++) {
            new ModelTest(seed).run(seed);
        }
        System.out.println(calls + " calls in " + RUNS + " runs, " + wrong + " wrong");
        if (wrong != 0) {
            System.exit(1);
        }
    }

    private void run(long seed) {
        mine = new TurnShifts();
        due = new Model();
        if (random.nextInt(12) != 0) {
            text(unitText(), false);
            same("unit()", mine.unit(), due.unit());
        }
        while (made + CALLS_OF_A_STEP <= CALLS && !stop) {
            step();
        }
        if (stop) {
            wrong++;
            System.out.println("seed " + seed + ":\n" + past);
        }
    }

    private void same(String call, long got, long want) {
        calls++;
        made++;
        past.append("  ").append(call).append(" -> ").append(got).append('\n');
        if (got != want) {
            past.append("  due is ").append(want).append('\n');
            stop = true;
        }
    }

    private void same(String call, boolean got, boolean want) {
        same(call, got ? 1 : 0, want ? 1 : 0);
    }

    private int below(int n) {
        return random.nextInt(n);
    }

    private int pick(int... of) {
        return of[below(of.length)];
    }

    /** Mostly from low to high, now and then just beyond, or anything. */
    private int from(int low, int high) {
        int kind = below(20);
        if (kind == 0) {
            return pick(low - 1, high + 1);
        }
        if (kind == 1 && below(4) == 0) {
            return pick(Integer.MIN_VALUE, Integer.MAX_VALUE, random.nextInt());
        }
        return low + below(high - low + 1);
    }

    /** An operand: within, at or just beyond a power of 2 round the unit's width. */
    private int operand() {
        int f = Math.max(6, due.rule(0));
        int limit = 1 << (f + pick(-f, -2, -1, 0, 0, 1, 2, 3, 4, 4, 5, 5, 6));
        switch (below(12)) {
            case 0: return pick(0, 1, -1, 2, -2);
            case 1: return limit;
            case 2: return -limit;
            case 3: return limit + 1;
            case 4: return -limit - 1;
            case 5: return below(10) == 0 ? random.nextInt() : limit - 1;
            case 6: return due.constant(below(3)) * pick(-9, -3, -2, -1, 1, 2, 3, 9) >> Math.max(0, due.rule(1));
            default: return below(2 * limit + 1) - limit;
        }
    }

    private String blanks() {
        return " ".repeat(pick(0, 0, 0, 0, 1, 1, 2));
    }

    private String unitText() {
        StringBuilder all = new StringBuilder();
        String[] pieces = {"width" + blanks() + pick(6, 7, 8, 12, 16, 20, 22, from(6, 22)),
            "stages" + blanks() + pick(5, 6, 8, 24, from(5, 24)), "guard" + blanks() + pick(0, 1, 4, from(0, 4)),
            below(2) == 0 ? "pipe" : "fold " + from(1, 12), "near"};
        int used = 0;
        int wanted = 3 | below(8) << 2;
        while (used != wanted) {
            int piece = below(5);
            if ((wanted >> piece & 1) == 1 && (used >> piece & 1) == 0) {
                all.append(all.length() == 0 ? "" : ";").append(blanks()).append(pieces[piece]).append(blanks());
                used |= 1 << piece;
            }
        }
        return all.toString();
    }

    private String ordersText() {
        StringBuilder all = new StringBuilder();
        int lines = below(25) == 0 ? 58 + below(5) : 1 + below(8);
        for (int line = 0; line < lines; line++) {
            int kind = lines > 50 ? pick(4, 6) : below(9);
            all.append(line == 0 ? "" : ";").append(lines > 50 ? "" : blanks()).append(WORDS[kind]);
            for (int what = 0; what < NAMES[kind]; what++) {
                all.append(lines > 50 ? "" : blanks());
                if (below(3) == 0 && line > 0) {
                    all.append('@').append(below(line + (below(20) == 0 ? 2 : 0))).append(below(3) == 0 ? "'" : "");
                } else {
                    int f = Math.max(6, due.rule(0));
                    int value = lines > 50 ? 1 + below(9) : below(9) == 0 ? operand() : 1 + below(1 << f);
                    all.append(what > 0 && value >= 0 ? " " : "").append(value);
                }
            }
            all.append(lines > 50 ? "" : blanks());
        }
        return all.toString();
    }

    /** A text with a sign put in, taken out, changed, or cut off. */
    private String spoilt(String text) {
        String signs = "abz019;;  @@--''.A{/:`" + (char) 200 + "near";
        StringBuilder all = new StringBuilder(text);
        int at = below(all.length() + 1);
        switch (below(4)) {
            case 0: all.insert(at, signs.charAt(below(signs.length()))); break;
            case 1: if (at < all.length()) { all.deleteCharAt(at); } break;
            case 2: if (at < all.length()) { all.setCharAt(at, signs.charAt(below(signs.length()))); } break;
            default: all.setLength(at); break;
        }
        return all.toString();
    }

    private void text(String text, boolean behind) {
        if (!behind) {
            same("end(0)", mine.end(0), due.end(0));
        }
        byte[] bytes = text.getBytes(java.nio.charset.StandardCharsets.ISO_8859_1);
        for (int at = 0; at < bytes.length; at += 20) {
            int[] words = new int[5];
            for (int i = 0; i < 20 && at + i < bytes.length; i++) {
                words[i / 4] |= (bytes[at + i] & 255) << (24 - 8 * (i % 4));
            }
            feed(words);
        }
        past.append("  (").append(text).append(")\n");
    }

    private void feed(int... w) {
        same("feed(" + w[0] + ", " + w[1] + ", " + w[2] + ", " + w[3] + ", " + w[4] + ")",
            mine.feed(w[0], w[1], w[2], w[3], w[4]), due.feed(w[0], w[1], w[2], w[3], w[4]));
    }

    private int someJob() {
        return from(0, Math.max(0, due.rule(6) - 1));
    }

    private void step() {
        int group = below(100);
        if (group < 8) {
            stepText();
        } else if (group < 45) {
            stepJobs();
        } else if (group < 75) {
            askJobs();
        } else {
            askTables();
        }
    }

    private void stepText() {
        int what = below(30);
        if (what == 0) {
            text(below(3) == 0 ? spoilt(unitText()) : unitText(), below(9) == 0);
            same("fault(0)", mine.fault(0), due.fault(0));
            same("unit()", mine.unit(), due.unit());
        } else if (what < 10) {
            text(below(3) == 0 ? spoilt(ordersText()) : ordersText(), below(9) == 0);
            same("fault(1)", mine.fault(1), due.fault(1));
            same("orders()", mine.orders(), due.orders());
        } else if (what < 20) {
            text(below(2) == 0 ? spoilt(spoilt(unitText())) : spoilt(spoilt(ordersText())), false);
            same("fault(0)", mine.fault(0), due.fault(0));
            same("fault(1)", mine.fault(1), due.fault(1));
        } else if (what < 25) {
            int n = from(0, Math.max(0, due.count(0)));
            same("end(" + n + ")", mine.end(n), due.end(n));
        } else {
            feed(random.nextInt(), pick(0, random.nextInt()), random.nextInt(), 1 << below(32), random.nextInt());
        }
        int which = from(0, 1);
        same("count(" + which + ")", mine.count(which), due.count(which));
    }

    private void stepJobs() {
        switch (below(12)) {
            case 0: case 1: case 2: case 3: {
                int kind = from(0, 8);
                int a = operand();
                int b = operand();
                int c = operand();
                same("job(" + kind + ", " + a + ", " + b + ", " + c + ")", mine.job(kind, a, b, c), due.job(kind, a, b, c));
                break;
            }
            case 4: case 5: {
                int job = below(2) == 0 ? due.rule(6) - 1 : someJob();
                int what = below(2) == 0 ? 0 : from(0, 2);
                int of = below(2) == 0 ? job - 1 - below(3) : someJob();
                int i = from(0, 1);
                same("link(" + job + ", " + what + ", " + of + ", " + i + ")",
                    mine.link(job, what, of, i), due.link(job, what, of, i));
                break;
            }
            case 6: {
                int job = below(2) == 0 ? due.waits(below(3)) : someJob();
                same("drop(" + job + ")", mine.drop(job), due.drop(job));
                break;
            }
            case 7: case 8: case 9: {
                int n = below(8) == 0 ? from(1, 100) : 1 + below(5);
                same("clock(" + n + ")", mine.clock(n), due.clock(n));
                break;
            }
            case 10: {
                boolean is = below(4) == 0;
                same("hold(" + is + ")", mine.hold(is), due.hold(is));
                break;
            }
            default:
                if (below(3) == 0) {
                    same("back()", mine.back(), due.back());
                } else {
                    same("image()", mine.image(), due.image());
                }
                break;
        }
    }

    private void askJobs() {
        int job = someJob();
        switch (below(11)) {
            case 0: case 1: told(job, from(0, 9)); break;
            case 2: {
                int i = from(0, 1);
                same("result(" + job + ", " + i + ")", mine.result(job, i), due.result(job, i));
                break;
            }
            case 3: {
                int stage = from(0, Math.max(5, due.rule(2)));
                int what = from(0, 2);
                same("trace(" + job + ", " + stage + ", " + what + ")",
                    mine.trace(job, stage, what), due.trace(job, stage, what));
                break;
            }
            case 4: same("signs(" + job + ")", mine.signs(job), due.signs(job)); break;
            case 5: {
                int stage = from(0, Math.max(5, due.rule(2)));
                same("register(" + stage + ")", mine.register(stage), due.register(stage));
                break;
            }
            case 6: {
                int place = from(0, Math.max(1, due.rule(3)) - 1);
                same("place(" + place + ")", mine.place(place), due.place(place));
                break;
            }
            case 7: same("allOver()", mine.allOver(), due.allOver()); break;
            case 8: {
                int i = from(-1, 6);
                same("waits(" + i + ")", mine.waits(i), due.waits(i));
                break;
            }
            case 9: {
                int what = from(0, 3);
                same("most(" + what + ")", mine.most(what), due.most(what));
                break;
            }
            default: {
                int what = from(0, 2);
                same("linked(" + job + ", " + what + ")", mine.linked(job, what), due.linked(job, what));
                break;
            }
        }
    }

    private void told(int job, int what) {
        Integer got = null;
        Integer want = null;
        try {
            got = mine.told(job, what);
        } catch (NoSuchElementException e) {
            past.append("  told throws\n");
        }
        try {
            want = due.told(job, what);
        } catch (NoSuchElementException e) {
            past.append("  told is to throw\n");
        }
        same("told(" + job + ", " + what + ") throws", got == null, want == null);
        if (got != null && want != null) {
            same("told(" + job + ", " + what + ")", got, want);
        }
    }

    private void askTables() {
        int mode = from(0, 2);
        int kind = from(0, 8);
        int a = operand();
        int b = operand();
        int c = operand();
        int i = from(0, 1);
        String abc = "(" + kind + ", " + a + ", " + b + ", " + c + ", " + i + ")";
        switch (below(14)) {
            case 0: case 1: case 2: same("value" + abc, mine.value(kind, a, b, c, i), due.value(kind, a, b, c, i)); break;
            case 3: same("finest" + abc, mine.finest(kind, a, b, c, i), due.finest(kind, a, b, c, i)); break;
            case 4: same("apart" + abc, mine.apart(kind, a, b, c, i), due.apart(kind, a, b, c, i)); break;
            case 5: sweep(); break;
            case 6: {
                int t = pick(0, 2, 3, 10, below(200), operand());
                int which = pick(0, 6, kind);
                same("fewest(" + which + ", " + t + ")", mine.fewest(which, t), due.fewest(which, t));
                break;
            }
            case 7: same("off(" + kind + ")", mine.off(kind), due.off(kind)); break;
            case 8: {
                int stage = from(0, 23);
                int what = from(0, 2);
                same("stage(" + mode + ", " + stage + ", " + what + ")",
                    mine.stage(mode, stage, what), due.stage(mode, stage, what));
                break;
            }
            case 9: {
                int what = from(0, 4);
                same("mode(" + mode + ", " + what + ")", mine.mode(mode, what), due.mode(mode, what));
                break;
            }
            case 10: {
                int j = from(0, 31);
                same("digit(" + mode + ", " + j + ")", mine.digit(mode, j), due.digit(mode, j));
                break;
            }
            case 11: {
                int v = pick(1 << 29, -(1 << 29), (1 << 29) + 1, -(1 << 29) - 1, operand(), from(-1000, 1000));
                same("takenOut(" + mode + ", " + v + ")", mine.takenOut(mode, v), due.takenOut(mode, v));
                break;
            }
            case 12: {
                int what = from(0, 11);
                same("rule(" + what + ")", mine.rule(what), due.rule(what));
                break;
            }
            default: {
                int what = from(0, 3);
                same("status(" + what + ")", mine.status(what), due.status(what));
                same("constant(" + what + ")", mine.constant(what), due.constant(what));
                break;
            }
        }
    }

    private void sweep() {
        int kind = below(3) == 0 ? from(0, 8) : pick(0, 4, 5, 6, 7);
        int a = operand();
        int d = below(12) == 0 ? random.nextInt() : operand() / pick(1, 3, 10, 100);
        int n = below(8) == 0 ? pick(0, 1, 200, 201) : from(1, 20);
        int what = from(0, 3);
        same("sweep(" + kind + ", " + a + ", " + d + ", " + n + ", " + what + ")",
            mine.sweep(kind, a, d, n, what), due.sweep(kind, a, d, n, what));
    }
}
