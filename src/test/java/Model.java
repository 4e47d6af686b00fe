import java.math.BigInteger;
import java.util.ArrayList;
import java.util.LinkedHashMap;
import java.util.LinkedHashSet;
import java.util.List;
import java.util.Map;
import java.util.NoSuchElementException;
import java.util.Set;
import java.util.regex.Matcher;
import java.util.regex.Pattern;

/**
 * The document once more, written for plainness and in unbounded numbers: what TurnShifts answers is held against it.
 * Jobs keep what each of their stages did, clock by clock, where TurnShifts works it out again.
 */
final class Model {
    static final int NONE = -1;
    static final int HIDDEN = Integer.MIN_VALUE;
    private static final String[] WORDS = {"sine", "polar", "times", "over", "bow", "power", "log", "root", "turn"};
    private static final int[] NAMES = {1, 2, 2, 2, 1, 1, 1, 1, 3};
    private static final int[] MODE = {0, 0, 1, 1, 2, 2, 2, 2, 0};
    private static final boolean[] TURNING = {true, false, true, false, true, true, false, false, true};

    static BigInteger n(long v) {
        return BigInteger.valueOf(v);
    }

    static BigInteger two(int power) {
        return BigInteger.ONE.shiftLeft(power);
    }

    /** [v / w]. */
    static BigInteger whole(BigInteger v, BigInteger w) {
        BigInteger[] parts = v.divideAndRemainder(w);
        return parts[1].signum() < 0 ? parts[0].subtract(BigInteger.ONE) : parts[0];
    }

    /** A unit's text and tables. */
    static final class Tables {
        final int f;
        final int guard;
        final int p;
        final int n;
        final int places;
        final boolean near;
        final BigInteger at0;
        final BigInteger quarter;
        final BigInteger ln;

        Tables(int f, int guard, int n, int places, boolean near) {
            this.f = f;
            this.guard = guard;
            this.p = f + guard;
            this.n = n;
            this.places = places;
            this.near = near;
            at0 = byP(n(4).multiply(fifth(5, true)).subtract(fifth(239, true)));
            quarter = at0.add(at0);
            ln = byP(n(2).multiply(fifth(3, false)));
        }

        BigInteger byP(BigInteger v) {
            return whole(v.add(two(55 - p)), two(56 - p));
        }

        static BigInteger fifth(long q, boolean signs) {
            BigInteger sum = BigInteger.ZERO;
            BigInteger power = whole(two(56), n(q));
            for (int j = 0; power.signum() > 0; j++) {
                BigInteger term = whole(power, n(2 * j + 1));
                sum = signs && j % 2 == 1 ? sum.subtract(term) : sum.add(term);
                power = whole(power, n(q * q));
            }
            return sum;
        }

        static BigInteger series(int k, boolean signs) {
            BigInteger sum = BigInteger.ZERO;
            for (int j = 0; (2 * j + 1) * k <= 56; j++) {
                BigInteger term = whole(two(56 - (2 * j + 1) * k), n(2 * j + 1));
                sum = signs && j % 2 == 1 ? sum.subtract(term) : sum.add(term);
            }
            return sum;
        }

        int shiftOf(int mode, int stage) {
            if (mode != 2) {
                return stage;
            }
            List<Integer> all = new ArrayList<>();
            for (int k = 1; k < 30; k++) {
                all.add(k);
                if (k == 4 || k == 13) {
                    all.add(k);
                }
            }
            return all.get(stage);
        }

        BigInteger angle(int mode, int stage) {
            int k = shiftOf(mode, stage);
            if (mode == 1) {
                return k > p ? BigInteger.ZERO : two(p - k);
            }
            return k == 0 ? at0 : byP(series(k, mode == 0));
        }

        boolean noWord(int mode, int stage) {
            int k = shiftOf(mode, stage);
            return k <= p && angle(mode, stage).equals(two(p - k));
        }

        BigInteger gain(int mode) {
            BigInteger square = two(54);
            for (int stage = 0; stage < n; stage++) {
                BigInteger part = whole(square, two(2 * shiftOf(mode, stage)));
                if (mode == 0) {
                    square = square.add(part);
                } else if (mode == 2) {
                    square = square.subtract(part);
                }
            }
            return whole(square, two(54 - 2 * p)).sqrt();
        }

        private final Map<Integer, BigInteger> undos = new LinkedHashMap<>();

        BigInteger undo(int mode) {
            return undos.computeIfAbsent(mode, m -> whole(two(2 * p), gain(m)));
        }

        /** By 3 v xor v, not by the remainders that TurnShifts goes by. */
        int digit(int mode, int j) {
            BigInteger v = undo(mode);
            BigInteger three = v.multiply(n(3));
            BigInteger plus = three.andNot(v);
            BigInteger minus = v.andNot(three);
            return (plus.testBit(j + 1) ? 1 : 0) - (minus.testBit(j + 1) ? 1 : 0);
        }

        BigInteger shift(BigInteger v, int k) {
            return near && k > 0 ? whole(v.add(two(k - 1)), two(k)) : whole(v, two(k));
        }

        BigInteger takenOut(int mode, BigInteger v) {
            BigInteger sum = BigInteger.ZERO;
            for (int j = 0; j < 40; j++) {
                int digit = digit(mode, j);
                if (digit != 0) {
                    BigInteger part = j > p ? v.multiply(two(j - p)) : shift(v, p - j);
                    sum = sum.add(part.multiply(n(digit)));
                }
            }
            return sum;
        }

        BigInteger out(BigInteger v) {
            return p == f ? v : whole(v.add(two(guard - 1)), two(guard));
        }

        BigInteger off(int kind, int stages) {
            BigInteger w = angle(MODE[kind], stages - 1);
            BigInteger sum = kind == 0 ? w.add(n(4L * stages + 32)) : w.add(w).add(n(8L * stages + 32));
            return whole(sum, two(guard)).add(n(2));
        }
    }

    /** A point with all that it has gone through. */
    static final class Way {
        final Tables u;
        final int kind;
        final List<BigInteger[]> trace = new ArrayList<>();
        final List<Integer> signs = new ArrayList<>();
        BigInteger q = BigInteger.ZERO;
        int power;

        Way(Tables u, int kind, BigInteger... abc) {
            this.u = u;
            this.kind = kind;
            BigInteger a = abc[0].multiply(two(u.guard));
            BigInteger b = abc[1].multiply(two(u.guard));
            BigInteger c = abc[2].multiply(two(u.guard));
            trace.add(start(a, b, c));
        }

        static boolean to(BigInteger v, int power) {
            return v.abs().compareTo(two(power)) <= 0;
        }

        static boolean inBounds(Tables u, int kind, BigInteger... abc) {
            BigInteger a = abc[0];
            BigInteger b = abc[1];
            BigInteger c = abc[2];
            int f = u.f;
            switch (WORDS[kind]) {
                case "sine": return to(a, f + 5);
                case "polar": return to(a, f + 5) && to(b, f + 5) && !(a.signum() == 0 && b.signum() == 0);
                case "times": return to(a, f + 4) && to(b, f + 4);
                case "over": return to(a, f + 4) && to(b, f + 4) && b.signum() != 0
                        && a.abs().compareTo(b.abs().multiply(two(6))) <= 0;
                case "bow": return to(a, f);
                case "power": return to(a, f + 2);
                case "log":
                case "root": return a.signum() > 0 && to(a, f + 5);
                default: return to(a, f + 4) && to(b, f + 4) && to(c, f + 5);
            }
        }

        private BigInteger nearest(BigInteger v, BigInteger w) {
            return whole(v.add(v).add(w), w.add(w));
        }

        private BigInteger[] quarters(BigInteger u, BigInteger v) {
            int turns = q.mod(n(4)).intValue();
            for (int i = 0; i < turns; i++) {
                BigInteger old = u;
                u = v.negate();
                v = old;
            }
            return new BigInteger[] {u, v};
        }

        private BigInteger[] start(BigInteger a, BigInteger b, BigInteger c) {
            BigInteger zero = BigInteger.ZERO;
            int p = u.p;
            switch (WORDS[kind]) {
                case "sine":
                    q = nearest(a, u.quarter);
                    return point(u.undo(0), zero, a.subtract(q.multiply(u.quarter)));
                case "polar":
                    if (a.signum() < 0) {
                        BigInteger half = u.quarter.add(u.quarter);
                        return point(a.negate(), b.negate(), b.signum() >= 0 ? half : half.negate());
                    }
                    return point(a, b, zero);
                case "times":
                    while (b.abs().compareTo(two(p + power)) > 0) {
                        power++;
                    }
                    return point(a, zero, u.shift(b, power));
                case "over":
                    if (b.signum() < 0) {
                        a = a.negate();
                        b = b.negate();
                    }
                    while (a.abs().compareTo(b.multiply(two(power))) > 0) {
                        power++;
                    }
                    return point(b.multiply(two(power)), a, zero);
                case "bow":
                    return point(u.undo(2), zero, a);
                case "power":
                    q = nearest(a, u.ln);
                    return point(u.undo(2), zero, a.subtract(q.multiply(u.ln)));
                case "log": {
                    power = -64;
                    while (!isFrom(a, p - 1 + power, p + power)) {
                        power++;
                    }
                    BigInteger m = power < 0 ? a.multiply(two(-power)) : u.shift(a, power);
                    return point(m.add(two(p)), m.subtract(two(p)), zero);
                }
                case "root": {
                    power = -64;
                    while (!isFrom(a, p - 2 + 2 * power, p + 2 * power)) {
                        power++;
                    }
                    BigInteger m = power < 0 ? a.multiply(two(-2 * power)) : u.shift(a, 2 * power);
                    return point(m.add(two(p - 2)), m.subtract(two(p - 2)), zero);
                }
                default:
                    q = nearest(c, u.quarter);
                    BigInteger[] turned = quarters(a, b);
                    return point(turned[0], turned[1], c.subtract(q.multiply(u.quarter)));
            }
        }

        /** From 2 to the low to less than 2 to the high; times 2 to the 200, so that powers may be below 0. */
        private static boolean isFrom(BigInteger v, int low, int high) {
            BigInteger wide = v.multiply(two(200));
            return wide.compareTo(two(200 + low)) >= 0 && wide.compareTo(two(200 + high)) < 0;
        }

        private static BigInteger[] point(BigInteger x, BigInteger y, BigInteger z) {
            return new BigInteger[] {x, y, z};
        }

        int gone() {
            return signs.size();
        }

        void through() {
            BigInteger[] at = trace.get(trace.size() - 1);
            int stage = gone();
            int mode = MODE[kind];
            int d = TURNING[kind] ? (at[2].signum() >= 0 ? 1 : -1) : (at[1].signum() < 0 ? 1 : -1);
            BigInteger dx = u.shift(at[1], u.shiftOf(mode, stage)).multiply(n(d));
            BigInteger dy = u.shift(at[0], u.shiftOf(mode, stage)).multiply(n(d));
            BigInteger x = mode == 0 ? at[0].subtract(dx) : mode == 1 ? at[0] : at[0].add(dx);
            signs.add(d);
            trace.add(point(x, at[1].add(dy), at[2].subtract(u.angle(mode, stage).multiply(n(d)))));
        }

        Way all() {
            while (gone() < u.n) {
                through();
            }
            return this;
        }

        BigInteger result(int i) {
            BigInteger[] last = trace.get(u.n);
            BigInteger x = last[0];
            BigInteger y = last[1];
            BigInteger z = last[2];
            BigInteger zero = BigInteger.ZERO;
            BigInteger[] both;
            switch (WORDS[kind]) {
                case "sine": both = quarters(x, y); break;
                case "polar": both = new BigInteger[] {u.takenOut(0, x), z}; break;
                case "times": both = new BigInteger[] {y.multiply(two(power)), zero}; break;
                case "over": both = new BigInteger[] {z.multiply(two(power)), zero}; break;
                case "bow": both = new BigInteger[] {x, y}; break;
                case "power": both = new BigInteger[] {times(x.add(y), q.intValue()), zero}; break;
                case "log": both = new BigInteger[] {z.add(z).add(u.ln.multiply(n(power))), zero}; break;
                case "root": both = new BigInteger[] {times(u.takenOut(2, x), power), zero}; break;
                default: both = new BigInteger[] {u.takenOut(0, x), u.takenOut(0, y)}; break;
            }
            return u.out(both[i]);
        }

        private BigInteger times(BigInteger v, int by) {
            return by < 0 ? u.shift(v, -by) : v.multiply(two(by));
        }
    }

    /** A job, with all that was told of it and that it did. */
    static final class Job {
        int kind;
        int[] abc;
        int[] of = {NONE, NONE, NONE};
        int state;
        int told;
        int in = NONE;
        int done = NONE;
        Way way;

        Job copy() {
            Job other = new Job();
            other.kind = kind;
            other.abc = abc.clone();
            other.of = of.clone();
            other.state = state;
            other.told = told;
            other.in = in;
            other.done = done;
            if (way != null) {
                other.way = new Way(way.u, kind, big(abc));
                while (other.way.gone() < way.gone()) {
                    other.way.through();
                }
            }
            return other;
        }
    }

    static BigInteger[] big(int... abc) {
        return new BigInteger[] {n(abc[0]), n(abc[1]), n(abc[2])};
    }

    private static List<Job> copies(List<Job> jobs) {
        List<Job> all = new ArrayList<>();
        for (Job job : jobs) {
            all.add(job.copy());
        }
        return all;
    }

    private final StringBuilder tape = new StringBuilder();
    private final int[] status = new int[4];
    private Tables u;
    private List<Job> jobs = new ArrayList<>();
    private int clocks;
    private boolean held;
    private List<Job> imageJobs;
    private int imageClocks;
    private boolean imageHeld;

    int feed(int a, int b, int c, int d, int e) {
        StringBuilder more = new StringBuilder();
        for (int word : new int[] {a, b, c, d, e}) {
            for (int i = 3; i >= 0; i--) {
                int one = (word >>> (8 * i)) & 255;
                if (one != 0) {
                    more.append((char) one);
                }
            }
        }
        if (tape.length() + more.length() > 400) {
            return NONE;
        }
        tape.append(more);
        return tape.length();
    }

    boolean end(int n) {
        if (n < 0 || n > tape.length()) {
            return false;
        }
        tape.setLength(n);
        return true;
    }

    /** Parts of a text: words, numbers, links, single signs; blanks are left out. */
    private static List<int[]> parts(String text, String form) {
        List<int[]> all = new ArrayList<>();
        Matcher m = Pattern.compile(form, Pattern.DOTALL).matcher(text);
        while (m.find()) {
            if (!m.group().equals(" ")) {
                all.add(new int[] {m.start(), m.end()});
            }
        }
        all.add(new int[] {text.length(), text.length()});
        return all;
    }

    private static String part(String text, List<int[]> parts, int i) {
        int[] at = parts.get(i);
        return text.substring(at[0], at[1]);
    }

    /** The fault, or NONE with what was told. */
    private static int readUnit(String text, Map<String, Integer> told) {
        List<int[]> parts = parts(text, "[a-z]+|[0-9]+|.");
        Map<String, int[]> bounds = Map.of("width", new int[] {6, 22}, "guard", new int[] {0, 4},
                "stages", new int[] {5, 24}, "fold", new int[] {1, 12});
        int i = 0;
        while (true) {
            String word = part(text, parts, i);
            boolean known = bounds.containsKey(word) || word.equals("pipe") || word.equals("near");
            boolean again = told.containsKey(word) || word.equals("pipe") && told.containsKey("fold")
                    || word.equals("fold") && told.containsKey("pipe");
            if (!known || again) {
                return parts.get(i)[0];
            }
            i++;
            int number = 1;
            if (bounds.containsKey(word)) {
                String digits = part(text, parts, i);
                int[] from = bounds.get(word);
                if (!digits.matches("[0-9]{1,2}") || Integer.parseInt(digits) < from[0]
                        || Integer.parseInt(digits) > from[1]) {
                    return parts.get(i)[0];
                }
                number = Integer.parseInt(digits);
                i++;
            }
            told.put(word, number);
            String next = part(text, parts, i);
            if (next.isEmpty() && told.containsKey("width") && told.containsKey("stages")) {
                return NONE;
            }
            if (!next.equals(";")) {
                return parts.get(i)[0];
            }
            i++;
        }
    }

    /** The fault, or NONE with the lines: kind, a, b, c and what each of them is linked to. */
    private static int readOrders(String text, List<int[]> lines) {
        List<int[]> parts = parts(text, "[a-z]+|-?[0-9]+|@[0-9]+'?|.");
        int i = 0;
        while (true) {
            int kind = List.of(WORDS).indexOf(part(text, parts, i));
            if (kind < 0 || lines.size() == 60) {
                return parts.get(i)[0];
            }
            i++;
            int[] line = {kind, 0, 0, 0, NONE, NONE, NONE};
            for (int what = 0; what < NAMES[kind]; what++) {
                String name = part(text, parts, i);
                if (name.matches("-?[0-9]{1,9}")) {
                    line[1 + what] = Integer.parseInt(name);
                } else if (name.matches("@[0-9]{1,2}'?")) {
                    int of = Integer.parseInt(name.substring(1).replace("'", ""));
                    if (of >= lines.size()) {
                        return parts.get(i)[0];
                    }
                    line[4 + what] = 2 * of + (name.endsWith("'") ? 1 : 0);
                } else {
                    return parts.get(i)[0];
                }
                i++;
            }
            lines.add(line);
            String next = part(text, parts, i);
            if (next.isEmpty()) {
                return NONE;
            }
            if (!next.equals(";")) {
                return parts.get(i)[0];
            }
            i++;
        }
    }

    int fault(int what) {
        if (what == 0) {
            return readUnit(tape.toString(), new LinkedHashMap<>());
        }
        return what == 1 ? readOrders(tape.toString(), new ArrayList<>()) : -2;
    }

    int unit() {
        Map<String, Integer> told = new LinkedHashMap<>();
        if (readUnit(tape.toString(), told) != NONE) {
            return NONE;
        }
        int stages = told.get("stages");
        u = new Tables(told.get("width"), told.getOrDefault("guard", 2), stages,
                told.getOrDefault("fold", stages), told.containsKey("near"));
        jobs = new ArrayList<>();
        clocks = 0;
        held = false;
        imageJobs = null;
        tape.setLength(0);
        return stages;
    }

    private int states(int state) {
        int sum = 0;
        for (Job job : jobs) {
            sum += job.state == state ? 1 : 0;
        }
        return sum;
    }

    int rule(int what) {
        if (u == null || what < 0 || what > 11) {
            return NONE;
        }
        return new int[] {u.f, u.guard, u.n, u.places, u.near ? 1 : 0, clocks, jobs.size(), states(0), states(1),
            states(2), held ? 1 : 0, states(3)}[what];
    }

    int constant(int what) {
        if (u == null || what < 0 || what > 2) {
            return NONE;
        }
        return new BigInteger[] {u.quarter, u.ln, u.at0}[what].intValueExact();
    }

    private boolean isMode(int mode) {
        return u != null && mode >= 0 && mode <= 2;
    }

    int stage(int mode, int stage, int what) {
        if (!isMode(mode) || stage < 0 || stage >= u.n || what < 0 || what > 2) {
            return NONE;
        }
        return what == 0 ? u.shiftOf(mode, stage)
                : what == 1 ? u.angle(mode, stage).intValueExact() : u.noWord(mode, stage) ? 1 : 0;
    }

    int mode(int mode, int what) {
        if (!isMode(mode) || what < 0 || what > 4) {
            return NONE;
        }
        int used = 0;
        for (int j = 0; j < 40; j++) {
            used += u.digit(mode, j) != 0 ? 1 : 0;
        }
        Set<BigInteger> words = new LinkedHashSet<>();
        int first = 0;
        for (int stage = 0; stage < u.n; stage++) {
            if (!u.noWord(mode, stage)) {
                words.add(u.angle(mode, stage));
                first = stage + 1;
            }
        }
        return new int[] {u.gain(mode).intValueExact(), u.undo(mode).intValueExact(), used, words.size(), first}[what];
    }

    int digit(int mode, int j) {
        return isMode(mode) && j >= 0 && j <= 31 ? u.digit(mode, j) : HIDDEN;
    }

    int takenOut(int mode, int v) {
        return isMode(mode) && Way.to(n(v), 29) ? u.takenOut(mode, n(v)).intValueExact() : HIDDEN;
    }

    private boolean can(int kind, int i, BigInteger... abc) {
        return u != null && kind >= 0 && kind <= 8 && (i == 0 || i == 1) && Way.inBounds(u, kind, abc);
    }

    int value(int kind, int a, int b, int c, int i) {
        BigInteger[] abc = big(a, b, c);
        return can(kind, i, abc) ? new Way(u, kind, abc).all().result(i).intValueExact() : HIDDEN;
    }

    int off(int kind) {
        return u != null && (kind == 0 || kind == 6) ? u.off(kind, u.n).intValueExact() : NONE;
    }

    private int add(int kind, int... abc) {
        Job job = new Job();
        job.kind = kind;
        job.abc = abc;
        job.told = clocks;
        jobs.add(job);
        return jobs.size() - 1;
    }

    private int refuse(int why) {
        status[why]++;
        return NONE;
    }

    int job(int kind, int a, int b, int c) {
        if (u == null || kind < 0 || kind > 8) {
            return refuse(0);
        }
        if (!Way.inBounds(u, kind, big(a, b, c))) {
            return refuse(1);
        }
        return jobs.size() == 60 ? refuse(2) : add(kind, a, b, c);
    }

    int orders() {
        if (u == null) {
            return refuse(0);
        }
        List<int[]> lines = new ArrayList<>();
        if (readOrders(tape.toString(), lines) != NONE) {
            return refuse(1);
        }
        for (int[] line : lines) {
            boolean free = line[4] == NONE && line[5] == NONE && line[6] == NONE;
            if (free && !Way.inBounds(u, line[0], big(line[1], line[2], line[3]))) {
                return refuse(1);
            }
        }
        int first = jobs.size();
        if (first + lines.size() > 60) {
            return refuse(2);
        }
        for (int[] line : lines) {
            Job job = jobs.get(add(line[0], line[1], line[2], line[3]));
            for (int what = 0; what < 3; what++) {
                job.of[what] = line[4 + what] == NONE ? NONE : line[4 + what] + 2 * first;
            }
        }
        tape.setLength(0);
        return lines.size();
    }

    private boolean isJob(int job) {
        return u != null && job >= 0 && job < jobs.size();
    }

    boolean drop(int job) {
        if (!isJob(job)) {
            return refuse(0) != NONE;
        }
        for (Job other : jobs) {
            for (int of : other.of) {
                if (other.state == 0 && of != NONE && of / 2 == job) {
                    return refuse(3) != NONE;
                }
            }
        }
        if (jobs.get(job).state != 0) {
            return refuse(3) != NONE;
        }
        jobs.get(job).state = 3;
        return true;
    }

    boolean link(int job, int what, int of, int i) {
        if (!isJob(job) || !isJob(of)) {
            return refuse(0) != NONE;
        }
        if (what < 0 || what > 2 || i < 0 || i > 1 || of >= job) {
            return refuse(1) != NONE;
        }
        if (jobs.get(job).state != 0) {
            return refuse(3) != NONE;
        }
        jobs.get(job).of[what] = 2 * of + i;
        jobs.get(job).abc[what] = 0;
        return true;
    }

    int linked(int job, int what) {
        return isJob(job) && what >= 0 && what <= 2 ? jobs.get(job).of[what] : NONE;
    }

    private int tick() {
        clocks++;
        if (held) {
            return 0;
        }
        int done = 0;
        for (Job job : jobs) {
            if (job.state == 1 && job.way.gone() == u.n) {
                job.state = 2;
                job.done = clocks;
                done++;
            } else if (job.state == 1) {
                job.way.through();
            }
        }
        for (Job job : jobs) {
            if (job.state == 1 && job.way.gone() < u.n && job.way.gone() % u.places == 0) {
                return done;
            }
        }
        for (Job job : jobs) {
            if (job.state == 0) {
                bringIn(job);
                return done;
            }
        }
        return done;
    }

    private void bringIn(Job job) {
        boolean fails = false;
        for (int of : job.of) {
            if (of != NONE && jobs.get(of / 2).state < 2) {
                return;
            }
            fails |= of != NONE && jobs.get(of / 2).state == 3;
        }
        for (int what = 0; what < 3; what++) {
            int of = job.of[what];
            if (of != NONE && jobs.get(of / 2).state == 2) {
                job.abc[what] = jobs.get(of / 2).way.result(of % 2).intValueExact();
            }
        }
        job.in = clocks;
        if (fails || !Way.inBounds(u, job.kind, big(job.abc))) {
            job.state = 3;
            return;
        }
        job.state = 1;
        job.way = new Way(u, job.kind, big(job.abc));
    }

    int clock(int n) {
        if (u == null) {
            return refuse(0);
        }
        if (n < 1 || n > 100) {
            return refuse(1);
        }
        int done = 0;
        for (int i = 0; i < n; i++) {
            done += tick();
        }
        return done;
    }

    boolean hold(boolean is) {
        if (u == null) {
            return refuse(0) != NONE;
        }
        if (held == is) {
            return refuse(3) != NONE;
        }
        held = is;
        return true;
    }

    int told(int number, int what) {
        if (!isJob(number) || what < 0 || what > 9) {
            throw new NoSuchElementException();
        }
        Job job = jobs.get(number);
        return new int[] {job.kind, job.abc[0], job.abc[1], job.abc[2], job.state, job.way == null ? 0 : job.way.gone(),
            job.in, job.done, MODE[job.kind], TURNING[job.kind] ? 1 : 0}[what];
    }

    int result(int job, int i) {
        return isJob(job) && (i == 0 || i == 1) && jobs.get(job).state == 2
                ? jobs.get(job).way.result(i).intValueExact() : HIDDEN;
    }

    long trace(int job, int stage, int what) {
        if (!isJob(job) || jobs.get(job).way == null || stage < 0 || stage > jobs.get(job).way.gone()
                || what < 0 || what > 2) {
            return Long.MIN_VALUE;
        }
        return jobs.get(job).way.trace.get(stage)[what].longValueExact();
    }

    int signs(int job) {
        if (!isJob(job) || jobs.get(job).way == null) {
            return NONE;
        }
        int bits = 0;
        for (int stage = 0; stage < jobs.get(job).way.gone(); stage++) {
            bits += jobs.get(job).way.signs.get(stage) == 1 ? 1 << stage : 0;
        }
        return bits;
    }

    int register(int stage) {
        for (int job = 0; u != null && job < jobs.size(); job++) {
            if (jobs.get(job).state == 1 && jobs.get(job).way.gone() == stage) {
                return job;
            }
        }
        return NONE;
    }

    int place(int place) {
        for (int job = 0; u != null && job < jobs.size(); job++) {
            Job at = jobs.get(job);
            if (at.state == 1 && at.way.gone() < u.n && at.way.gone() % u.places == place) {
                return job;
            }
        }
        return NONE;
    }

    int allOver() {
        if (u == null) {
            return NONE;
        }
        Model other = new Model();
        other.u = u;
        other.jobs = copies(jobs);
        int clocksFromNow = 0;
        while (other.states(0) + other.states(1) > 0) {
            other.tick();
            clocksFromNow++;
        }
        return clocksFromNow;
    }

    private BigInteger finestOf(int kind, int i, BigInteger... abc) {
        Tables best = new Tables(22, 4, 24, 24, true);
        BigInteger by = two(22 - u.f);
        return new Way(best, kind, abc[0].multiply(by), abc[1].multiply(by), abc[2].multiply(by)).all().result(i);
    }

    private BigInteger apartOf(int kind, int i, BigInteger... abc) {
        BigInteger mine = new Way(u, kind, abc).all().result(i).multiply(two(22 - u.f));
        return mine.subtract(finestOf(kind, i, abc)).abs();
    }

    int finest(int kind, int a, int b, int c, int i) {
        return can(kind, i, big(a, b, c)) ? finestOf(kind, i, big(a, b, c)).intValueExact() : HIDDEN;
    }

    long apart(int kind, int a, int b, int c, int i) {
        return can(kind, i, big(a, b, c)) ? apartOf(kind, i, big(a, b, c)).longValueExact() : HIDDEN;
    }

    int fewest(int kind, int t) {
        for (int stages = 5; u != null && (kind == 0 || kind == 6) && stages <= 24; stages++) {
            if (u.off(kind, stages).compareTo(n(t)) <= 0) {
                return stages;
            }
        }
        return NONE;
    }

    long sweep(int kind, int a, int d, int n, int what) {
        if (u == null || kind < 0 || kind > 8 || NAMES[kind] != 1 || n < 1 || n > 200 || what < 0 || what > 3) {
            return Long.MIN_VALUE;
        }
        List<BigInteger> can = new ArrayList<>();
        for (int j = 0; j < n; j++) {
            BigInteger v = n(a).add(n(d).multiply(n(j)));
            if (can(kind, 0, v, BigInteger.ZERO, BigInteger.ZERO)) {
                can.add(v);
            }
        }
        if (what == 3) {
            return n - can.size();
        }
        if (what == 2) {
            long falls = 0;
            for (int j = 1; j < can.size(); j++) {
                falls += at(kind, can.get(j)).compareTo(at(kind, can.get(j - 1))) < 0 ? 1 : 0;
            }
            return falls;
        }
        BigInteger greatest = null;
        BigInteger first = null;
        for (BigInteger v : can) {
            BigInteger apart = apartOf(kind, 0, v, BigInteger.ZERO, BigInteger.ZERO);
            if (greatest == null || apart.compareTo(greatest) > 0) {
                greatest = apart;
                first = v;
            }
        }
        return greatest == null ? Long.MIN_VALUE : (what == 0 ? greatest : first).longValueExact();
    }

    private BigInteger at(int kind, BigInteger v) {
        return new Way(u, kind, v, BigInteger.ZERO, BigInteger.ZERO).all().result(0);
    }

    int image() {
        if (u == null) {
            return NONE;
        }
        imageJobs = copies(jobs);
        imageClocks = clocks;
        imageHeld = held;
        return clocks;
    }

    int back() {
        if (imageJobs == null) {
            return NONE;
        }
        jobs = copies(imageJobs);
        clocks = imageClocks;
        held = imageHeld;
        return clocks;
    }

    int waits(int i) {
        if (u == null) {
            return NONE;
        }
        List<Integer> all = new ArrayList<>();
        for (int job = 0; job < jobs.size(); job++) {
            if (jobs.get(job).state == 0) {
                all.add(job);
            }
        }
        return i == NONE ? all.size() : i >= 0 && i < all.size() ? all.get(i) : NONE;
    }

    int status(int what) {
        return what >= 0 && what <= 3 ? status[what] : NONE;
    }

    long most(int what) {
        if (u == null || what < 0 || what > 3) {
            return NONE;
        }
        long[] all = new long[4];
        for (Job job : jobs) {
            if (job.state == 2) {
                BigInteger[] last = job.way.trace.get(u.n);
                int side = TURNING[job.kind] ? 0 : 1;
                all[side] = Math.max(all[side], last[side == 0 ? 2 : 1].abs().longValueExact());
                all[2] = Math.max(all[2], job.done - job.told);
                all[3] += u.n * (MODE[job.kind] == 1 ? 2L : 3L);
            }
        }
        return all[what];
    }

    int count(int what) {
        return what == 0 ? tape.length() : NONE;
    }
}
