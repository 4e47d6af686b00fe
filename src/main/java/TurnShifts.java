import java.util.NoSuchElementException;

/** A unit that turns points by small angles with shifts and sums alone; DOC.md says what each call promises. */
public final class TurnShifts {
    public static final int NONE = -1;
    public static final int HIDDEN = Integer.MIN_VALUE;

    private static final int MOST_BYTES = 400;
    private static final int MOST_JOBS = 60;
    private static final int MOST_STAGES = 24;
    private static final int FEWEST_STAGES = 5;
    private static final int MOST_DIGITS = 32;
    private static final int MODES = 3;
    private static final int CIRCLE = 0;
    private static final int LINE = 1;
    private static final int HYPERBOLA = 2;
    private static final int OPERANDS = 3;
    private static final int FINEST_WIDTH = 22;
    private static final int FINEST_GUARD = 4;

    private static final int WAITING = 0;
    private static final int UNDER_WAY = 1;
    private static final int DONE = 2;
    private static final int FAILED = 3;

    private static final int NO_SUCH = 0;
    private static final int OUT_OF_BOUNDS = 1;
    private static final int FULL = 2;
    private static final int NOT_NOW = 3;

    private static final int SINE_NUMBER = 0;
    private static final int LOG_NUMBER = 6;

    private static final Kind[] KINDS = Kind.values();
    private static final Piece[] PIECES = Piece.values();

    private final Tape tape;
    private final UnitText unitText;
    private final OrdersText ordersText;
    private final Unit own;
    private final Turner turner;
    private final Turner finestTurner;
    private final Book book;
    private final Book kept;
    private final Book ahead;
    private final int[] refusals;
    private boolean hasUnit;
    private boolean hasImage;

    public TurnShifts() {
        tape = new Tape();
        unitText = new UnitText(tape);
        ordersText = new OrdersText(tape);
        own = new Unit();
        turner = new Turner(own);
        Unit best = new Unit();
        best.build(FINEST_WIDTH, FINEST_GUARD, MOST_STAGES, MOST_STAGES, true);
        finestTurner = new Turner(best);
        book = new Book();
        kept = new Book();
        ahead = new Book();
        refusals = new int[4];
    }

    public int feed(int a, int b, int c, int d, int e) {
        int more = Tape.bytesTold(a) + Tape.bytesTold(b) + Tape.bytesTold(c) + Tape.bytesTold(d) + Tape.bytesTold(e);
        if (tape.length + more > MOST_BYTES) {
            return NONE;
        }
        tape.append(a);
        tape.append(b);
        tape.append(c);
        tape.append(d);
        tape.append(e);
        return tape.length;
    }

    public boolean end(int n) {
        if (n < 0 || n > tape.length) {
            return false;
        }
        tape.length = n;
        return true;
    }

    public int fault(int what) {
        if (what == 0) {
            return unitText.read();
        }
        return what == 1 ? ordersText.read() : -2;
    }

    public int unit() {
        if (unitText.read() != NONE) {
            return NONE;
        }
        own.build(unitText.width, unitText.guardOrUsual(), unitText.stages, unitText.placesOrStages(), unitText.near);
        book.clear();
        tape.length = 0;
        hasUnit = true;
        hasImage = false;
        return own.stages;
    }

    public int rule(int what) {
        if (!hasUnit) {
            return NONE;
        }
        switch (what) {
            case 0: return own.width;
            case 1: return own.guard;
            case 2: return own.stages;
            case 3: return own.places;
            case 4: return own.near ? 1 : 0;
            case 5: return book.clocks;
            case 6: return book.jobs;
            case 7: return book.howMany(WAITING);
            case 8: return book.howMany(UNDER_WAY);
            case 9: return book.howMany(DONE);
            case 10: return book.held ? 1 : 0;
            case 11: return book.howMany(FAILED);
            default: return NONE;
        }
    }

    public int constant(int what) {
        if (!hasUnit) {
            return NONE;
        }
        switch (what) {
            case 0: return (int) own.quarter;
            case 1: return (int) own.ln;
            case 2: return (int) own.eighth;
            default: return NONE;
        }
    }

    public int stage(int mode, int stage, int what) {
        if (!isMode(mode) || stage < 0 || stage >= own.stages) {
            return NONE;
        }
        int at = mode * MOST_STAGES + stage;
        switch (what) {
            case 0: return own.shifts[at];
            case 1: return (int) own.angles[at];
            case 2: return own.needsWord(mode, stage) ? 0 : 1;
            default: return NONE;
        }
    }

    public int mode(int mode, int what) {
        if (!isMode(mode)) {
            return NONE;
        }
        switch (what) {
            case 0: return (int) own.gains[mode];
            case 1: return (int) own.undos[mode];
            case 2: return own.digitsUsed(mode);
            case 3: return own.words(mode);
            case 4: return own.firstWithoutWords(mode);
            default: return NONE;
        }
    }

    public int digit(int mode, int j) {
        if (!isMode(mode) || j < 0 || j >= MOST_DIGITS) {
            return HIDDEN;
        }
        return own.digits[mode * MOST_DIGITS + j];
    }

    public int takenOut(int mode, int v) {
        int most = 1 << 29;
        if (!isMode(mode) || v < -most || v > most) {
            return HIDDEN;
        }
        return (int) own.withoutGain(mode, v);
    }

    public int value(int kind, int a, int b, int c, int i) {
        if (!isKind(kind) || !isEither(i) || !turner.solve(kind, a, b, c)) {
            return HIDDEN;
        }
        return (int) turner.answer(i);
    }

    public int off(int kind) {
        return isBounded(kind) ? (int) own.farthest(kind, own.stages) : NONE;
    }

    public int job(int kind, int a, int b, int c) {
        if (!isKind(kind)) {
            return refuse(NO_SUCH);
        }
        if (!turner.fits(kind, a, b, c)) {
            return refuse(OUT_OF_BOUNDS);
        }
        if (book.jobs >= MOST_JOBS) {
            return refuse(FULL);
        }
        return book.add(kind, a, b, c);
    }

    public int orders() {
        if (!hasUnit) {
            return refuse(NO_SUCH);
        }
        if (ordersText.read() != NONE || !linesFit()) {
            return refuse(OUT_OF_BOUNDS);
        }
        if (book.jobs + ordersText.lines > MOST_JOBS) {
            return refuse(FULL);
        }
        takeLines();
        tape.length = 0;
        return ordersText.lines;
    }

    public boolean drop(int job) {
        if (!isJob(job)) {
            return allow(NO_SUCH);
        }
        if (book.states[job] != WAITING || book.isAwaited(job)) {
            return allow(NOT_NOW);
        }
        book.states[job] = FAILED;
        return true;
    }

    public boolean link(int job, int what, int of, int i) {
        if (!isJob(job) || !isJob(of)) {
            return allow(NO_SUCH);
        }
        if (!isOperand(what) || !isEither(i) || of >= job) {
            return allow(OUT_OF_BOUNDS);
        }
        if (book.states[job] != WAITING) {
            return allow(NOT_NOW);
        }
        book.tie(job, what, 2 * of + i);
        return true;
    }

    public int linked(int job, int what) {
        return isJob(job) && isOperand(what) ? book.ties[job * OPERANDS + what] : NONE;
    }

    public int clock(int n) {
        if (!hasUnit) {
            return refuse(NO_SUCH);
        }
        if (n < 1 || n > 100) {
            return refuse(OUT_OF_BOUNDS);
        }
        int done = 0;
        for (int i = 0; i < n; i++) {
            done += book.tick(turner);
        }
        return done;
    }

    public boolean hold(boolean is) {
        if (!hasUnit) {
            return allow(NO_SUCH);
        }
        if (book.held == is) {
            return allow(NOT_NOW);
        }
        book.held = is;
        return true;
    }

    public int told(int job, int what) throws NoSuchElementException {
        if (!isJob(job) || what < 0 || what > 9) {
            throw new NoSuchElementException("no such job, nothing such of a job");
        }
        switch (what) {
            case 0: return book.kinds[job];
            case 4: return book.states[job];
            case 5: return book.gone[job];
            case 6: return book.broughtIn[job];
            case 7: return book.doneIn[job];
            case 8: return kindOf(job).mode;
            case 9: return kindOf(job).turning ? 1 : 0;
            default: return book.operands[job * OPERANDS + what - 1];
        }
    }

    public int result(int job, int i) {
        if (!isJob(job) || !isEither(i) || book.states[job] != DONE) {
            return HIDDEN;
        }
        int at = job * OPERANDS;
        turner.solve(book.kinds[job], book.operands[at], book.operands[at + 1], book.operands[at + 2]);
        return (int) turner.answer(i);
    }

    public long trace(int job, int stage, int what) {
        if (!hasBegun(job) || stage < 0 || stage > book.gone[job] || what < 0 || what > 2) {
            return Long.MIN_VALUE;
        }
        book.turnAgain(job, turner, stage);
        if (what == 0) {
            return turner.x;
        }
        return what == 1 ? turner.y : turner.z;
    }

    public int signs(int job) {
        if (!hasBegun(job)) {
            return NONE;
        }
        book.turnAgain(job, turner, book.gone[job]);
        return turner.upBits;
    }

    public int register(int stage) {
        return hasUnit && stage >= 0 && stage <= own.stages ? book.aheadOf(stage) : NONE;
    }

    public int place(int place) {
        return hasUnit && place >= 0 && place < own.places ? book.standsIn(place, own) : NONE;
    }

    public int allOver() {
        if (!hasUnit) {
            return NONE;
        }
        ahead.copyFrom(book);
        ahead.held = false;
        // Each job is brought in or fails at the latest N and 1 clocks behind the one ahead of it.
        int bound = (MOST_JOBS + 1) * (MOST_STAGES + 2);
        int clocks = 0;
        while (ahead.isBusy() && clocks < bound) {
            ahead.tick(turner);
            clocks++;
        }
        return clocks;
    }

    public int finest(int kind, int a, int b, int c, int i) {
        if (!isKind(kind) || !isEither(i) || !solveBoth(kind, a, b, c)) {
            return HIDDEN;
        }
        return (int) finestTurner.answer(i);
    }

    public long apart(int kind, int a, int b, int c, int i) {
        if (!isKind(kind) || !isEither(i) || !solveBoth(kind, a, b, c)) {
            return HIDDEN;
        }
        return distance(i);
    }

    public int fewest(int kind, int t) {
        if (!isBounded(kind)) {
            return NONE;
        }
        for (int stages = FEWEST_STAGES; stages <= MOST_STAGES; stages++) {
            if (own.farthest(kind, stages) <= t) {
                return stages;
            }
        }
        return NONE;
    }

    public long sweep(int kind, int a, int d, int n, int what) {
        if (!isKind(kind) || KINDS[kind].names != 1 || n < 1 || n > 200 || what < 0 || what > 3) {
            return Long.MIN_VALUE;
        }
        long greatest = NONE;
        long at = Long.MIN_VALUE;
        long falls = 0;
        long before = Long.MIN_VALUE;
        long cannot = 0;
        for (int j = 0; j < n; j++) {
            long operand = a + (long) j * d;
            if (!solveBoth(kind, operand, 0, 0)) {
                cannot++;
                continue;
            }
            falls += turner.first < before ? 1 : 0;
            before = turner.first;
            if (distance(0) > greatest) {
                greatest = distance(0);
                at = operand;
            }
        }
        switch (what) {
            case 0: return greatest < 0 ? Long.MIN_VALUE : greatest;
            case 1: return at;
            case 2: return falls;
            default: return cannot;
        }
    }

    public int image() {
        if (!hasUnit) {
            return NONE;
        }
        kept.copyFrom(book);
        hasImage = true;
        return book.clocks;
    }

    public int back() {
        if (!hasImage) {
            return NONE;
        }
        book.copyFrom(kept);
        return book.clocks;
    }

    public int waits(int i) {
        if (!hasUnit) {
            return NONE;
        }
        return i == NONE ? book.howMany(WAITING) : book.waiting(i);
    }

    public int status(int what) {
        return what >= 0 && what < refusals.length ? refusals[what] : NONE;
    }

    public long most(int what) {
        if (!hasUnit) {
            return NONE;
        }
        switch (what) {
            case 0: return book.greatestLeft(turner, true);
            case 1: return book.greatestLeft(turner, false);
            case 2: return book.longestWay();
            case 3: return book.sumsMade(own.stages);
            default: return NONE;
        }
    }

    public int count(int what) {
        return what == 0 ? tape.length : NONE;
    }

    private boolean isMode(int mode) {
        return hasUnit && mode >= 0 && mode < MODES;
    }

    private boolean isKind(int kind) {
        return hasUnit && kind >= 0 && kind < KINDS.length;
    }

    private boolean isBounded(int kind) {
        return hasUnit && (kind == SINE_NUMBER || kind == LOG_NUMBER);
    }

    private boolean isJob(int job) {
        return hasUnit && job >= 0 && job < book.jobs;
    }

    private boolean hasBegun(int job) {
        return isJob(job) && (book.states[job] == UNDER_WAY || book.states[job] == DONE);
    }

    private static boolean isOperand(int what) {
        return what >= 0 && what < OPERANDS;
    }

    private static boolean isEither(int i) {
        return i == 0 || i == 1;
    }

    private Kind kindOf(int job) {
        return KINDS[book.kinds[job]];
    }

    private int refuse(int why) {
        refusals[why]++;
        return NONE;
    }

    private boolean allow(int whyNot) {
        refusals[whyNot]++;
        return false;
    }

    private boolean linesFit() {
        for (int line = 0; line < ordersText.lines; line++) {
            int at = line * OPERANDS;
            if (!ordersText.isTied(line) && !turner.fits(ordersText.kinds[line],
                    ordersText.operands[at], ordersText.operands[at + 1], ordersText.operands[at + 2])) {
                return false;
            }
        }
        return true;
    }

    private void takeLines() {
        int firstJob = book.jobs;
        for (int line = 0; line < ordersText.lines; line++) {
            int at = line * OPERANDS;
            int job = book.add(ordersText.kinds[line],
                    ordersText.operands[at], ordersText.operands[at + 1], ordersText.operands[at + 2]);
            for (int what = 0; what < OPERANDS; what++) {
                if (ordersText.ties[at + what] != NONE) {
                    book.tie(job, what, 2 * firstJob + ordersText.ties[at + what]);
                }
            }
        }
    }

    private boolean solveBoth(int kind, long a, long b, long c) {
        int finer = FINEST_WIDTH - own.width;
        return turner.solve(kind, a, b, c) && finestTurner.solve(kind, a << finer, b << finer, c << finer);
    }

    private long distance(int i) {
        return Math.abs((turner.answer(i) << (FINEST_WIDTH - own.width)) - finestTurner.answer(i));
    }

    /** What a job is asked to work out, in the order of the document's numbers. */
    private enum Kind {
        SINE("sine", 1, CIRCLE, true),
        POLAR("polar", 2, CIRCLE, false),
        TIMES("times", 2, LINE, true),
        OVER("over", 2, LINE, false),
        BOW("bow", 1, HYPERBOLA, true),
        POWER("power", 1, HYPERBOLA, true),
        LOG("log", 1, HYPERBOLA, false),
        ROOT("root", 1, HYPERBOLA, false),
        TURN("turn", 3, CIRCLE, true);

        private final String word;
        private final int names;
        private final int mode;
        private final boolean turning;

        Kind(String word, int names, int mode, boolean turning) {
            this.word = word;
            this.names = names;
            this.mode = mode;
            this.turning = turning;
        }
    }

    /** The pieces of a unit's text; one without a number has bounds of 0. */
    private enum Piece {
        WIDTH("width", 6, 22),
        GUARD("guard", 0, 4),
        STAGES("stages", 5, 24),
        PIPE("pipe", 0, 0),
        FOLD("fold", 1, 12),
        NEAR("near", 0, 0);

        private final String word;
        private final int least;
        private final int greatest;

        Piece(String word, int least, int greatest) {
            this.word = word;
            this.least = least;
            this.greatest = greatest;
        }
    }

    /** The bytes that were fed; no byte of 0 is ever among them. */
    private static final class Tape {
        private final int[] bytes = new int[MOST_BYTES];
        private int length;

        private static int bytesTold(int word) {
            int sum = 0;
            for (int shift = 24; shift >= 0; shift -= 8) {
                sum += ((word >> shift) & 255) != 0 ? 1 : 0;
            }
            return sum;
        }

        private void append(int word) {
            for (int shift = 24; shift >= 0; shift -= 8) {
                int next = (word >> shift) & 255;
                if (next != 0 && length < MOST_BYTES) {
                    bytes[length] = next;
                    length++;
                }
            }
        }
    }

    /** Goes over the tape part by part. */
    private static final class Scan {
        private final Tape tape;
        private int at;

        private Scan(Tape tape) {
            this.tape = tape;
        }

        /** The byte here, 0 at the end. */
        private int here() {
            return at >= 0 && at < tape.length ? tape.bytes[at] : 0;
        }

        private boolean isAtEnd() {
            return at >= tape.length;
        }

        private boolean isOnLetter() {
            return here() >= 'a' && here() <= 'z';
        }

        private boolean isOnDigit() {
            return here() >= '0' && here() <= '9';
        }

        private void skipBlanks() {
            while (at < tape.length && here() == ' ') {
                at++;
            }
        }

        private void passLetters() {
            while (at < tape.length && isOnLetter()) {
                at++;
            }
        }

        private void passDigits() {
            while (at < tape.length && isOnDigit()) {
                at++;
            }
        }

        private boolean reads(String word, int from) {
            if (from < 0 || at > tape.length || at - from != word.length()) {
                return false;
            }
            for (int i = 0; i < word.length(); i++) {
                if (tape.bytes[from + i] != word.charAt(i)) {
                    return false;
                }
            }
            return true;
        }

        /** The number whose digits end here (at most nine). */
        private int number(int from) {
            int sum = 0;
            for (int i = from; i >= 0 && i < at && i < tape.length; i++) {
                sum = 10 * sum + tape.bytes[i] - '0';
            }
            return sum;
        }
    }

    /** The tape read as a unit. */
    private static final class UnitText {
        private final Scan scan;
        private int width;
        private int guard;
        private int stages;
        private int fold;
        private boolean pipe;
        private boolean near;

        private UnitText(Tape tape) {
            scan = new Scan(tape);
        }

        /** The fault, or NONE. */
        private int read() {
            forget();
            for (int piece = 0; piece <= MOST_BYTES; piece++) {
                int fault = readPiece();
                if (fault != NONE) {
                    return fault;
                }
                scan.skipBlanks();
                if (scan.isAtEnd() && width != NONE && stages != NONE) {
                    return NONE;
                }
                if (scan.here() != ';') {
                    return scan.at;
                }
                scan.at++;
            }
            return scan.at;
        }

        private int guardOrUsual() {
            return guard == NONE ? 2 : guard;
        }

        private int placesOrStages() {
            return fold == NONE ? stages : fold;
        }

        private void forget() {
            scan.at = 0;
            width = NONE;
            guard = NONE;
            stages = NONE;
            fold = NONE;
            pipe = false;
            near = false;
        }

        private int readPiece() {
            scan.skipBlanks();
            int from = scan.at;
            scan.passLetters();
            for (int i = 0; i < PIECES.length; i++) {
                if (scan.reads(PIECES[i].word, from)) {
                    return mayCome(PIECES[i]) ? readRest(PIECES[i]) : from;
                }
            }
            return from;
        }

        private int readRest(Piece piece) {
            if (piece.greatest == 0) {
                take(piece, 0);
                return NONE;
            }
            scan.skipBlanks();
            int from = scan.at;
            scan.passDigits();
            int digits = scan.at - from;
            if (digits < 1 || digits > 2) {
                return from;
            }
            int number = scan.number(from);
            if (number < piece.least || number > piece.greatest) {
                return from;
            }
            take(piece, number);
            return NONE;
        }

        private boolean mayCome(Piece piece) {
            switch (piece) {
                case WIDTH: return width == NONE;
                case GUARD: return guard == NONE;
                case STAGES: return stages == NONE;
                case NEAR: return !near;
                default: return !pipe && fold == NONE;
            }
        }

        private void take(Piece piece, int number) {
            switch (piece) {
                case WIDTH: width = number; break;
                case GUARD: guard = number; break;
                case STAGES: stages = number; break;
                case PIPE: pipe = true; break;
                case FOLD: fold = number; break;
                default: near = true; break;
            }
        }
    }

    /** The tape read as orders: a row of operands and of ties for each line. */
    private static final class OrdersText {
        private final Scan scan;
        private final int[] kinds = new int[MOST_JOBS];
        private final int[] operands = new int[MOST_JOBS * OPERANDS];
        private final int[] ties = new int[MOST_JOBS * OPERANDS];
        /** So many lines stand ahead of the one that is read. */
        private int lines;

        private OrdersText(Tape tape) {
            scan = new Scan(tape);
        }

        /** The fault, or NONE. */
        private int read() {
            scan.at = 0;
            lines = 0;
            for (int line = 0; line < MOST_JOBS; line++) {
                int fault = readLine(line);
                if (fault != NONE) {
                    return fault;
                }
                lines = line + 1;
                scan.skipBlanks();
                if (scan.isAtEnd()) {
                    return NONE;
                }
                if (scan.here() != ';') {
                    return scan.at;
                }
                scan.at++;
            }
            scan.skipBlanks();
            return scan.at;
        }

        private boolean isTied(int line) {
            int at = line * OPERANDS;
            return ties[at] != NONE || ties[at + 1] != NONE || ties[at + 2] != NONE;
        }

        private int readLine(int line) {
            int at = line * OPERANDS;
            for (int what = 0; what < OPERANDS; what++) {
                operands[at + what] = 0;
                ties[at + what] = NONE;
            }
            scan.skipBlanks();
            int from = scan.at;
            scan.passLetters();
            for (int kind = 0; kind < KINDS.length; kind++) {
                if (scan.reads(KINDS[kind].word, from)) {
                    kinds[line] = kind;
                    return readOperands(at, KINDS[kind].names);
                }
            }
            return from;
        }

        private int readOperands(int at, int names) {
            for (int what = 0; what < names && what < OPERANDS; what++) {
                scan.skipBlanks();
                int fault = scan.here() == '@' ? readTie(at + what) : readNumber(at + what);
                if (fault != NONE) {
                    return fault;
                }
            }
            return NONE;
        }

        private int readNumber(int at) {
            int begin = scan.at;
            boolean negative = scan.here() == '-';
            scan.at += negative ? 1 : 0;
            int from = scan.at;
            scan.passDigits();
            int digits = scan.at - from;
            if (digits < 1 || digits > 9) {
                return begin;
            }
            operands[at] = negative ? -scan.number(from) : scan.number(from);
            return NONE;
        }

        private int readTie(int at) {
            int begin = scan.at;
            scan.at++;
            int from = scan.at;
            scan.passDigits();
            int digits = scan.at - from;
            if (digits < 1 || digits > 2 || scan.number(from) >= lines) {
                return begin;
            }
            boolean second = scan.here() == '\'';
            ties[at] = 2 * scan.number(from) + (second ? 1 : 0);
            scan.at += second ? 1 : 0;
            return NONE;
        }
    }

    /** What a unit's text settles, and the tables that follow from it; rows are kept one behind the other. */
    private static final class Unit {
        private int width;
        private int guard;
        /** Bits behind the point within (the document's P). */
        private int bits;
        private int stages;
        private int places;
        private boolean near;
        private long quarter;
        private long eighth;
        private long ln;
        private final int[] shifts = new int[MODES * MOST_STAGES];
        private final long[] angles = new long[MODES * MOST_STAGES];
        private final long[] gains = new long[MODES];
        private final long[] undos = new long[MODES];
        private final int[] digits = new int[MODES * MOST_DIGITS];

        private void build(int width, int guard, int stages, int places, boolean near) {
            this.width = width;
            this.guard = guard;
            this.stages = stages;
            this.places = places;
            this.near = near;
            bits = width + guard;
            eighth = rounded(eighthTurn());
            quarter = 2 * eighth;
            ln = rounded(2 * ofOneOver(3, false));
            for (int mode = 0; mode < MODES; mode++) {
                fillShifts(mode);
                fillAngles(mode);
                gains[mode] = rootOf(square(mode) >> (54 - 2 * bits));
                undos[mode] = gains[mode] > 0 ? (1L << (2 * bits)) / gains[mode] : 0;
                fillDigits(mode);
            }
        }

        /** The series of AT(k), TH(k), k 1 on, by 2 to the 56. */
        private static long ofShift(int k, boolean alternating) {
            long sum = 0;
            for (int odd = 1; odd <= 56 && odd * k <= 56; odd += 2) {
                long term = (1L << (56 - odd * k)) / odd;
                sum += alternating && (odd & 2) != 0 ? -term : term;
            }
            return sum;
        }

        /** The series of FIFTH(q), by 2 to the 56. */
        private static long ofOneOver(int q, boolean alternating) {
            if (q < 2) {
                return 0;
            }
            long sum = 0;
            long power = (1L << 56) / q;
            for (int odd = 1; odd < 128 && power > 0; odd += 2) {
                long term = power / odd;
                sum += alternating && (odd & 2) != 0 ? -term : term;
                power /= (long) q * q;
            }
            return sum;
        }

        private static long eighthTurn() {
            return 4 * ofOneOver(5, true) - ofOneOver(239, true);
        }

        /** The greatest whole number whose square is no more than v (below 2 to the 62). */
        private static long rootOf(long v) {
            long root = 0;
            for (int bit = 30; bit >= 0; bit--) {
                long tried = root | (1L << bit);
                if (tried * tried <= v) {
                    root = tried;
                }
            }
            return root;
        }

        private long rounded(long by56) {
            return (by56 + (1L << (55 - bits))) >> (56 - bits);
        }

        private void fillShifts(int mode) {
            int k = mode == HYPERBOLA ? 1 : 0;
            boolean again = false;
            for (int stage = 0; stage < MOST_STAGES; stage++) {
                shifts[mode * MOST_STAGES + stage] = k;
                again = mode == HYPERBOLA && (k == 4 || k == 13) && !again;
                k += again ? 0 : 1;
            }
        }

        /** All 24, so that fewer or more stages than this unit's can be asked about. */
        private void fillAngles(int mode) {
            for (int at = mode * MOST_STAGES; at < (mode + 1) * MOST_STAGES; at++) {
                int k = shifts[at];
                if (mode == LINE) {
                    angles[at] = powerFor(k);
                } else if (k == 0) {
                    angles[at] = eighth;
                } else {
                    angles[at] = rounded(ofShift(k, mode == CIRCLE));
                }
            }
        }

        /** 2 to the (P - k), 0 for k above P. */
        private long powerFor(int k) {
            return k <= bits ? 1L << (bits - k) : 0;
        }

        private long square(int mode) {
            long square = 1L << 54;
            for (int stage = 0; stage < stages && stage < MOST_STAGES; stage++) {
                long part = square >> (2 * shifts[mode * MOST_STAGES + stage]);
                if (mode == CIRCLE) {
                    square += part;
                } else if (mode == HYPERBOLA) {
                    square -= part;
                }
            }
            return square;
        }

        private void fillDigits(int mode) {
            long rest = undos[mode];
            for (int j = 0; j < MOST_DIGITS; j++) {
                int digit = (rest & 1) == 0 ? 0 : 2 - (int) (rest & 3);
                digits[mode * MOST_DIGITS + j] = digit;
                rest = (rest - digit) >> 1;
            }
        }

        private boolean needsWord(int mode, int stage) {
            int at = mode * MOST_STAGES + stage;
            return shifts[at] > bits || angles[at] != powerFor(shifts[at]);
        }

        private int digitsUsed(int mode) {
            int sum = 0;
            for (int j = 0; j < MOST_DIGITS; j++) {
                sum += digits[mode * MOST_DIGITS + j] != 0 ? 1 : 0;
            }
            return sum;
        }

        /** Unlike angles that need a word. */
        private int words(int mode) {
            int sum = 0;
            for (int stage = 0; stage < stages; stage++) {
                sum += needsWord(mode, stage) && !hasWordBefore(mode, stage) ? 1 : 0;
            }
            return sum;
        }

        private boolean hasWordBefore(int mode, int stage) {
            int row = mode * MOST_STAGES;
            for (int earlier = 0; earlier < stage; earlier++) {
                if (needsWord(mode, earlier) && angles[row + earlier] == angles[row + stage]) {
                    return true;
                }
            }
            return false;
        }

        private int firstWithoutWords(int mode) {
            int first = stages;
            while (first > 0 && !needsWord(mode, first - 1)) {
                first--;
            }
            return first;
        }

        private long shifted(long v, int k) {
            return near && k > 0 ? (v + (1L << (k - 1))) >> k : v >> k;
        }

        /** v times 2 to the power; below 0 by a shift. */
        private long scaled(long v, int power) {
            return power >= 0 ? v << power : shifted(v, -power);
        }

        private long outward(long v) {
            return guard == 0 ? v : (v + (1L << (guard - 1))) >> guard;
        }

        private long withoutGain(int mode, long v) {
            long sum = 0;
            for (int j = 0; j < MOST_DIGITS; j++) {
                int digit = digits[mode * MOST_DIGITS + j];
                if (digit != 0) {
                    sum += digit * (j > bits ? v << (j - bits) : shifted(v, bits - j));
                }
            }
            return sum;
        }

        /** OFF, had the unit so many stages. */
        private long farthest(int kind, int stages) {
            long last = angles[KINDS[kind].mode * MOST_STAGES + stages - 1];
            long sum = kind == SINE_NUMBER ? last + 4 * stages + 32 : 2 * last + 8 * stages + 32;
            return (sum >> guard) + 2;
        }
    }

    /** One point at a time, brought near, turned and put back by a unit's tables. */
    private static final class Turner {
        private final Unit unit;
        private long x;
        private long y;
        private long z;
        private int upBits;
        /** How many quarters, LNs or powers of 2 the start was brought near by. */
        private int steps;
        private long first;
        private long second;

        private Turner(Unit unit) {
            this.unit = unit;
        }

        /** False: out of bounds. */
        private boolean solve(int kind, long a, long b, long c) {
            if (!fits(kind, a, b, c)) {
                return false;
            }
            begin(kind, a, b, c);
            goThrough(kind, unit.stages);
            finish(kind);
            return true;
        }

        private long answer(int i) {
            return i == 0 ? first : second;
        }

        private boolean fits(int kind, long a, long b, long c) {
            switch (KINDS[kind]) {
                case SINE: return isTo(a, 5);
                case POLAR: return isTo(a, 5) && isTo(b, 5) && (a != 0 || b != 0);
                case TIMES: return isTo(a, 4) && isTo(b, 4);
                case OVER: return isTo(a, 4) && isTo(b, 4) && b != 0 && stepsOver(a, b) <= 6;
                case BOW: return isTo(a, 0);
                case POWER: return isTo(a, 2);
                case TURN: return isTo(a, 4) && isTo(b, 4) && isTo(c, 5);
                default: return a > 0 && isTo(a, 5);
            }
        }

        private boolean isTo(long v, int more) {
            long most = 1L << (unit.width + more);
            return v >= -most && v <= most;
        }

        /** The least s with which |a| is no more than |b| times 2 to the s; 7 for all above 6. */
        private static int stepsOver(long a, long b) {
            int s = 0;
            while (s < 7 && Math.abs(a) > Math.abs(b) << s) {
                s++;
            }
            return s;
        }

        private void begin(int kind, long a, long b, long c) {
            long wideA = a << unit.guard;
            long wideB = b << unit.guard;
            long one = 1L << unit.bits;
            upBits = 0;
            steps = 0;
            switch (KINDS[kind]) {
                case SINE: beginNear(unit.undos[CIRCLE], wideA, unit.quarter); break;
                case POLAR: beginPolar(wideA, wideB); break;
                case TIMES: beginTimes(wideA, wideB); break;
                case OVER: beginOver(wideA, wideB); break;
                case BOW: put(unit.undos[HYPERBOLA], 0, wideA); break;
                case POWER: beginNear(unit.undos[HYPERBOLA], wideA, unit.ln); break;
                case LOG:
                    steps = powerOf(wideA) - unit.bits + 1;
                    beginApart(unit.scaled(wideA, -steps), one);
                    break;
                case ROOT:
                    steps = (powerOf(wideA) - unit.bits + 2) >> 1;
                    beginApart(unit.scaled(wideA, -2 * steps), one >> 2);
                    break;
                default: beginTurn(wideA, wideB, c << unit.guard); break;
            }
        }

        private void put(long x, long y, long z) {
            this.x = x;
            this.y = y;
            this.z = z;
        }

        private void beginNear(long undo, long angle, long whole) {
            steps = nearest(angle, whole);
            put(undo, 0, angle - steps * whole);
        }

        private void beginPolar(long a, long b) {
            if (a >= 0) {
                put(a, b, 0);
            } else {
                put(-a, -b, b >= 0 ? 2 * unit.quarter : -2 * unit.quarter);
            }
        }

        private void beginTimes(long a, long b) {
            while (steps < 4 && Math.abs(b) > 1L << (unit.bits + steps)) {
                steps++;
            }
            put(a, 0, unit.shifted(b, steps));
        }

        private void beginOver(long a, long b) {
            steps = stepsOver(a, b);
            put(Math.abs(b) << steps, b < 0 ? -a : a, 0);
        }

        private void beginApart(long near, long from) {
            put(near + from, near - from, 0);
        }

        private void beginTurn(long a, long b, long c) {
            steps = nearest(c, unit.quarter);
            turnQuarters(a, b);
            put(first, second, c - steps * unit.quarter);
        }

        private static int nearest(long v, long whole) {
            return whole > 0 ? (int) Math.floorDiv(2 * v + whole, 2 * whole) : 0;
        }

        /** The greatest power of 2 that is no more than v (above 0). */
        private static int powerOf(long v) {
            return 63 - Long.numberOfLeadingZeros(v);
        }

        private void turnQuarters(long u, long v) {
            switch (steps & 3) {
                case 0: answers(u, v); break;
                case 1: answers(-v, u); break;
                case 2: answers(-u, -v); break;
                default: answers(v, -u); break;
            }
        }

        private void answers(long first, long second) {
            this.first = first;
            this.second = second;
        }

        /** From stage 0 to ahead of the stage told. */
        private void goThrough(int kind, int upTo) {
            boolean turning = KINDS[kind].turning;
            int mode = KINDS[kind].mode;
            for (int stage = 0; stage < upTo && stage < MOST_STAGES; stage++) {
                int at = mode * MOST_STAGES + stage;
                boolean up = turning ? z >= 0 : y < 0;
                long moreX = unit.shifted(y, unit.shifts[at]);
                long moreY = unit.shifted(x, unit.shifts[at]);
                if (mode == CIRCLE) {
                    x = up ? x - moreX : x + moreX;
                } else if (mode == HYPERBOLA) {
                    x = up ? x + moreX : x - moreX;
                }
                y = up ? y + moreY : y - moreY;
                z = up ? z - unit.angles[at] : z + unit.angles[at];
                upBits |= up ? 1 << stage : 0;
            }
        }

        private void finish(int kind) {
            switch (KINDS[kind]) {
                case SINE: turnQuarters(x, y); break;
                case POLAR: answers(unit.withoutGain(CIRCLE, x), z); break;
                case TIMES: answers(y << steps, 0); break;
                case OVER: answers(z << steps, 0); break;
                case BOW: answers(x, y); break;
                case POWER: answers(unit.scaled(x + y, steps), 0); break;
                case LOG: answers(2 * z + steps * unit.ln, 0); break;
                case ROOT: answers(unit.scaled(unit.withoutGain(HYPERBOLA, x), steps), 0); break;
                default: answers(unit.withoutGain(CIRCLE, x), unit.withoutGain(CIRCLE, y)); break;
            }
            answers(unit.outward(first), unit.outward(second));
        }
    }

    /** The jobs and the clocks. What a job's stages did is not kept: it follows from its operands. */
    private static final class Book {
        private final int[] kinds = new int[MOST_JOBS];
        private final int[] operands = new int[MOST_JOBS * OPERANDS];
        /** Twice the number and i of what an operand is linked to, or NONE. */
        private final int[] ties = new int[MOST_JOBS * OPERANDS];
        private final int[] states = new int[MOST_JOBS];
        private final int[] gone = new int[MOST_JOBS];
        private final int[] toldIn = new int[MOST_JOBS];
        private final int[] broughtIn = new int[MOST_JOBS];
        private final int[] doneIn = new int[MOST_JOBS];
        private int jobs;
        /** So many jobs, from the first on, are done or failed (perhaps more are). */
        private int over;
        private int clocks;
        private boolean held;

        private void clear() {
            jobs = 0;
            over = 0;
            clocks = 0;
            held = false;
        }

        private void copyFrom(Book other) {
            System.arraycopy(other.kinds, 0, kinds, 0, MOST_JOBS);
            System.arraycopy(other.operands, 0, operands, 0, MOST_JOBS * OPERANDS);
            System.arraycopy(other.ties, 0, ties, 0, MOST_JOBS * OPERANDS);
            System.arraycopy(other.states, 0, states, 0, MOST_JOBS);
            System.arraycopy(other.gone, 0, gone, 0, MOST_JOBS);
            System.arraycopy(other.toldIn, 0, toldIn, 0, MOST_JOBS);
            System.arraycopy(other.broughtIn, 0, broughtIn, 0, MOST_JOBS);
            System.arraycopy(other.doneIn, 0, doneIn, 0, MOST_JOBS);
            jobs = other.jobs;
            over = other.over;
            clocks = other.clocks;
            held = other.held;
        }

        private int add(int kind, int a, int b, int c) {
            if (jobs >= MOST_JOBS) {
                return NONE;
            }
            int job = jobs;
            jobs++;
            kinds[job] = kind;
            operands[job * OPERANDS] = a;
            operands[job * OPERANDS + 1] = b;
            operands[job * OPERANDS + 2] = c;
            for (int what = 0; what < OPERANDS; what++) {
                ties[job * OPERANDS + what] = NONE;
            }
            states[job] = WAITING;
            gone[job] = 0;
            toldIn[job] = clocks;
            broughtIn[job] = NONE;
            doneIn[job] = NONE;
            return job;
        }

        private void tie(int job, int what, int to) {
            ties[job * OPERANDS + what] = to;
            operands[job * OPERANDS + what] = 0;
        }

        private int howMany(int state) {
            int sum = 0;
            for (int job = 0; job < jobs; job++) {
                sum += states[job] == state ? 1 : 0;
            }
            return sum;
        }

        /** Goes past the leading jobs that are over: none of them is ever looked at again by a clock. */
        private boolean isBusy() {
            while (over < jobs && (states[over] == DONE || states[over] == FAILED)) {
                over++;
            }
            return over < jobs;
        }

        /** The i-th job that waits, or NONE. */
        private int waiting(int i) {
            int left = i;
            for (int job = over; job < jobs; job++) {
                if (states[job] == WAITING) {
                    if (left == 0) {
                        return job;
                    }
                    left--;
                }
            }
            return NONE;
        }

        /** Whether one that waits is linked to this job. */
        private boolean isAwaited(int job) {
            for (int at = 0; at < jobs * OPERANDS; at++) {
                if (ties[at] != NONE && ties[at] >> 1 == job && states[at / OPERANDS] == WAITING) {
                    return true;
                }
            }
            return false;
        }

        private int aheadOf(int stage) {
            for (int job = over; job < jobs; job++) {
                if (states[job] == UNDER_WAY && gone[job] == stage) {
                    return job;
                }
            }
            return NONE;
        }

        private int standsIn(int place, Unit unit) {
            for (int job = over; job < jobs && states[job] != WAITING; job++) {
                if (states[job] == UNDER_WAY && gone[job] < unit.stages
                        && unit.places > 0 && gone[job] % unit.places == place) {
                    return job;
                }
            }
            return NONE;
        }

        /** One clock: how many are done in it. */
        private int tick(Turner turner) {
            clocks++;
            if (held) {
                return 0;
            }
            if (!isBusy()) {
                return 0;
            }
            int done = goOn(turner.unit.stages);
            int next = waiting(0);
            if (next != NONE && standsIn(0, turner.unit) == NONE && !mustWait(next)) {
                bringIn(next, turner);
            }
            return done;
        }

        private int goOn(int stages) {
            int done = 0;
            for (int job = over; job < jobs && states[job] != WAITING; job++) {
                if (states[job] != UNDER_WAY) {
                    continue;
                }
                if (gone[job] < stages) {
                    gone[job]++;
                } else {
                    states[job] = DONE;
                    doneIn[job] = clocks;
                    done++;
                }
            }
            return done;
        }

        private boolean mustWait(int job) {
            for (int at = job * OPERANDS; at < (job + 1) * OPERANDS; at++) {
                int of = ties[at] >> 1;
                if (ties[at] != NONE && (states[of] == WAITING || states[of] == UNDER_WAY)) {
                    return true;
                }
            }
            return false;
        }

        private void bringIn(int job, Turner turner) {
            boolean fails = false;
            for (int at = job * OPERANDS; at < (job + 1) * OPERANDS; at++) {
                int of = ties[at] >> 1;
                if (ties[at] != NONE && states[of] == DONE) {
                    int from = of * OPERANDS;
                    turner.solve(kinds[of], operands[from], operands[from + 1], operands[from + 2]);
                    operands[at] = (int) turner.answer(ties[at] & 1);
                } else if (ties[at] != NONE) {
                    fails = true;
                }
            }
            int at = job * OPERANDS;
            fails = fails || !turner.fits(kinds[job], operands[at], operands[at + 1], operands[at + 2]);
            states[job] = fails ? FAILED : UNDER_WAY;
            broughtIn[job] = clocks;
        }

        private void turnAgain(int job, Turner turner, int upTo) {
            int at = job * OPERANDS;
            turner.begin(kinds[job], operands[at], operands[at + 1], operands[at + 2]);
            turner.goThrough(kinds[job], upTo);
        }

        /** The greatest |z| of those turning, |y| of those levelling, of all that are done. */
        private long greatestLeft(Turner turner, boolean turning) {
            long greatest = 0;
            for (int job = 0; job < jobs; job++) {
                if (states[job] == DONE && KINDS[kinds[job]].turning == turning) {
                    turnAgain(job, turner, turner.unit.stages);
                    greatest = Math.max(greatest, Math.abs(turning ? turner.z : turner.y));
                }
            }
            return greatest;
        }

        private long longestWay() {
            long longest = 0;
            for (int job = 0; job < jobs; job++) {
                if (states[job] == DONE) {
                    longest = Math.max(longest, doneIn[job] - toldIn[job]);
                }
            }
            return longest;
        }

        private long sumsMade(int stages) {
            long sums = 0;
            for (int job = 0; job < jobs; job++) {
                if (states[job] == DONE) {
                    sums += (long) stages * (KINDS[kinds[job]].mode == LINE ? 2 : 3);
                }
            }
            return sums;
        }
    }
}
