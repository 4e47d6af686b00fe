import java.util.ArrayList;
import java.util.List;

/** The bounds that the document names for the TAPE, for a UNIT's TEXT and for ORDERS, sentence by sentence. */
public final class TextBoundsTest {
    private static final int NONE = TurnShifts.NONE;
    private static final String[] PIECES = {"width 6", "guard 1", "stages 5", "pipe", "fold 1", "near"};
    private static final String[] WORDS =
        {"sine", "polar", "times", "over", "bow", "power", "log", "root", "turn"};
    private static final int[] NAMES = {1, 2, 2, 2, 1, 1, 1, 1, 3};

    private TextBoundsTest() {
    }

    public static void main(String[] args) {
        feedToTheBrim();
        feedRefused();
        bytesInTheirOrder();
        bytesOfNull();
        endOfTheTape();
        faultOfWhat();
        numbersOfPieces();
        longNumbersOfPieces();
        piecesAtMostOnce();
        piecesInAnyOrder();
        piecesThatMustBeTold();
        whatIsNotTold();
        unitsCutShort();
        wordsOfPieces();
        anyByteInAUnit();
        blanksInAUnit();
        semicolonsInAUnit();
        unitRefused();
        unitTaken();
        digitsInOrders();
        linksInOrders();
        linesOfOrders();
        wordsOfOrders();
        whatWordsName();
        ordersCutShort();
        anyByteInOrders();
        blanksInOrders();
        faultsWithoutAUnit();
        ordersRefused();
        ordersTaken();
        ordersUpToSixty();
        Check.end();
    }

    private static void same(String what, long got, long want) {
        Check.same(what, got, want);
    }

    /** Asked twice, and behind another TEXT: nothing of what was read ahead of it is left. */
    private static void unit(String text, int fault) {
        TurnShifts x = new TurnShifts();
        Check.tape(x, "near;pipe;stages 24;width 22");
        x.fault(0);
        Check.tape(x, text);
        same("the fault of the unit \"" + text + "\"", x.fault(0), fault);
        same("the fault of the unit \"" + text + "\" again", x.fault(0), fault);
    }

    private static void orders(String text, int fault) {
        TurnShifts x = new TurnShifts();
        Check.tape(x, "bow 1;turn 1 2 3;turn @1 @0 @1");
        x.fault(1);
        Check.tape(x, text);
        same("the fault of the orders \"" + text + "\"", x.fault(1), fault);
        same("the fault of the orders \"" + text + "\" again", x.fault(1), fault);
    }

    /** "how many it has. NONE: more than 400 (without these)." */
    private static void feedToTheBrim() {
        int four = 0x61616161;
        for (int more = 1; more <= 20; more++) {
            TurnShifts x = new TurnShifts();
            for (int i = 1; i < 20; i++) {
                x.feed(four, four, four, four, four);
            }
            x.feed(four, four, four, four, 0x61616100);
            x.end(400 - more);
            int[] w = bytes(more + 1);
            if (more < 20) {
                same("2: 401", x.feed(w[0], w[1], w[2], w[3], w[4]), NONE);
                same("2: without these", x.count(0), 400 - more);
            }
            w = bytes(more);
            same("2: 400 with " + more, x.feed(w[0], w[1], w[2], w[3], w[4]), 400);
            same("2: 400", x.count(0), 400);
            same("2: one more than 400", x.feed(0, 0, 0, 0, 1), NONE);
            same("2: one more than 400", x.feed(1 << 24, 0, 0, 0, 0), NONE);
            same("2: twenty more than 400", x.feed(-1, -1, -1, -1, -1), NONE);
            same("2: still 400", x.count(0), 400);
            same("2: nothing more is no more than 400", x.feed(0, 0, 0, 0, 0), 400);
        }
    }

    private static int[] bytes(int n) {
        int[] w = new int[5];
        for (int i = 0; i < n && i < 20; i++) {
            w[i / 4] |= 'b' << (24 - 8 * (i % 4));
        }
        return w;
    }

    private static void feedRefused() {
        Watch.Calls full = x -> {
            Check.tape(x, " ".repeat(366) + "sine 5;bow 1;log 64");
            x.unit();
        };
        same("2: 385 bytes", fedBy(full), 385);
        Watch.asks("2: sixteen of which none comes", full, x -> x.feed(0x3b626f77, 0x313b626f, 0x77313b62, 0x6f773131, 0),
            NONE);
        Watch.asks("2: fifteen would fit, of sixteen none comes", full,
            x -> x.feed(0x20202020, 0x20202020, 0x20202020, 0x20202020, 0), NONE);
        Watch.asks("2: nothing comes", full, x -> x.feed(0, 0, 0, 0, 0), 385);
    }

    private static int fedBy(Watch.Calls calls) {
        TurnShifts x = new TurnShifts();
        calls.on(x);
        return x.count(0);
    }

    /** "of each number the highest first": another order of the bytes would not read so. */
    private static void bytesInTheirOrder() {
        TurnShifts x = new TurnShifts();
        x.feed(0x77696474, 0x6820363b, 0x73746167, 0x65732035, 0x3b6e6561);
        same("2: highest first", x.feed(0x72000000, 0, 0, 0, 0), 21);
        same("2: width 6;stages 5;near", x.fault(0), NONE);
        same("2: width 6;stages 5;near", x.unit(), 5);
        same("2: near", x.rule(4), 1);
        // One number with four bytes alone, each number in each of the five.
        for (int at = 0; at < 5; at++) {
            TurnShifts y = new TurnShifts();
            int[] w = new int[5];
            w[at] = 0x626f7735;
            y.feed(w[0], w[1], w[2], w[3], w[4]);
            same("2: bow5", y.fault(1), NONE);
        }
    }

    /** "bytes of 0 are left out", wherever they stand; a byte above 127 is a byte. */
    private static void bytesOfNull() {
        TurnShifts x = new TurnShifts();
        same("2: left out", x.feed(0x62000000, 0x006f0000, 0x00007700, 0x00000035, 0), 4);
        same("2: bow5", x.fault(1), NONE);
        for (int one = 0; one < 256; one++) {
            for (int shift = 0; shift < 32; shift += 8) {
                TurnShifts y = new TurnShifts();
                same("2: byte " + one, y.feed(one << shift, 0, 0, 0, 0), one == 0 ? 0 : 1);
                same("2: byte " + one, y.feed(0, 0, 0, 0, one << shift), one == 0 ? 0 : 2);
            }
        }
        TurnShifts z = new TurnShifts();
        same("2: twenty of 255", z.feed(-1, -1, -1, -1, -1), 20);
        same("2: one of 128", z.feed(Integer.MIN_VALUE, 0, 0, 0, 0), 21);
    }

    /** "The TAPE has its first n bytes alone. False: n." */
    private static void endOfTheTape() {
        Watch.Calls ten = x -> Check.tape(x, "sine 5;bow");
        for (int n : new int[] {-1, 11, Integer.MIN_VALUE, Integer.MAX_VALUE}) {
            Watch.asks("3: no such n " + n, ten, x -> Watch.truth(x.end(n)), 0);
        }
        Watch.asks("3: all of it", ten, x -> Watch.truth(x.end(10)), 1);
        for (int n = 0; n <= 10; n++) {
            TurnShifts x = new TurnShifts();
            ten.on(x);
            Check.yes("3: " + n, x.end(n));
            same("3: its first n", x.count(0), n);
            Check.no("3: what is gone is gone", x.end(n + 1));
            same("3: stays", x.count(0), n);
        }
        TurnShifts x = new TurnShifts();
        Check.yes("3: an empty one", x.end(0));
        Check.no("3: an empty one", x.end(1));
        ten.on(x);
        x.end(6);
        Check.more(x, ";bow 1");
        same("3: more comes behind its first n", x.fault(1), NONE);
        same("3: more comes behind its first n", x.count(0), 12);
        for (int what : new int[] {-1, 1, 2, Integer.MIN_VALUE, Integer.MAX_VALUE}) {
            same("37: NONE for others", x.count(what), NONE);
        }
    }

    /** "NONE: none; -2: another what." */
    private static void faultOfWhat() {
        Watch.Calls both = x -> Check.tape(x, "width 6;stages 5");
        for (int what : new int[] {-1, 2, -2, 3, Integer.MIN_VALUE, Integer.MAX_VALUE}) {
            Watch.asks("4: another what", both, x -> x.fault(what), -2);
        }
        Watch.asks("4: as a unit", both, x -> x.fault(0), NONE);
        Watch.asks("4: as orders", both, x -> x.fault(1), 0);
    }

    /** "width NUMBER (6 to 22 ..) | guard NUMBER (0 to 4 ..) | stages NUMBER (5 to 24 ..) | fold NUMBER (1 to 12 ..)". */
    private static void numbersOfPieces() {
        numbers("stages 5;", "width", 6, 22, "", 0);
        numbers("width 6;stages 5;", "guard", 0, 4, "", 1);
        numbers("width 6;", "stages", 5, 24, "", 2);
        numbers("width 6;stages 5;", "fold", 1, 12, "", 3);
        numbers("", "width", 6, 22, ";stages 5", 0);
    }

    private static void numbers(String ahead, String word, int low, int high, String behind, int rule) {
        for (int number = 0; number < 100; number++) {
            for (String digits : number < 10 ? new String[] {"" + number, "0" + number} : new String[] {"" + number}) {
                boolean is = number >= low && number <= high;
                String text = ahead + word + " " + digits + behind;
                unit(text, is ? NONE : ahead.length() + word.length() + 1);
                if (is) {
                    same("6: " + text, Check.unit(text).rule(rule), number);
                }
            }
        }
        unit(ahead + word + " -" + low + behind, ahead.length() + word.length() + 1);
        unit(ahead + word + " +" + low + behind, ahead.length() + word.length() + 1);
    }

    /** "NUMBERS (one or two digits) go as long as they can", "a NUMBER that is longer". */
    private static void longNumbersOfPieces() {
        for (String digits : new String[] {"006", "012", "100", "0000", "22222222222222222222", "4294967302"}) {
            unit("stages 5;width " + digits, 15);
            unit("width " + digits + ";stages 5", 6);
            unit("width 6;stages 5;guard " + digits, 23);
            unit("width 6;stages " + digits, 15);
            unit("width 6;stages 5;fold " + digits, 22);
        }
        unit("width 6;stages 5;guard 000", 23);
        unit("width 6;stages 005", 15);
        unit("width 6;stages 5;fold 001", 22);
        unit("width 6 stages 5", 8);
        unit("width 1 2;stages 5", 6);
        unit("width 12 2;stages 5", 9);
        unit("width6;stages5;fold2;guard3", NONE);
        unit("width 6;stages 5;guard 1" + "0".repeat(376), 23);
    }

    /** "each at most once", "one that was there (pipe behind fold, fold behind pipe, too)". */
    private static void piecesAtMostOnce() {
        for (int first = 0; first < 6; first++) {
            for (int second = 0; second < 6; second++) {
                String text = PIECES[first] + ";" + PIECES[second];
                boolean ways = (first == 3 || first == 4) && (second == 3 || second == 4);
                boolean whole = first + second == 2 && first != second;
                unit(text, first == second || ways ? PIECES[first].length() + 1 : whole ? NONE : text.length());
            }
        }
        String all = "width 6;guard 1;stages 5;fold 1;near";
        String other = "width 6;guard 1;stages 5;pipe;near";
        for (String piece : PIECES) {
            unit(all + ";" + piece, all.length() + 1);
            unit(other + " ; " + piece, other.length() + 3);
        }
        unit(all, NONE);
        unit(other, NONE);
        unit("width 6;stages 5;width 7", 17);
        unit("width 6;stages 5;width", 17);
        unit("width 6;stages 5;pipe;fold 99", 22);
        unit("width 99;width 6", 6);
    }

    /** "in any order". */
    private static void piecesInAnyOrder() {
        for (int number = 0; number < 120; number++) {
            for (String way : new String[] {"pipe", "fold 3"}) {
                List<String> left = new ArrayList<>(List.of("width 12", "guard 3", "stages 9", way, "near"));
                StringBuilder text = new StringBuilder();
                for (int rest = number, of = 5; of > 0; rest /= of, of--) {
                    text.append(text.length() == 0 ? "" : ";").append(left.remove(rest % of));
                }
                TurnShifts x = Check.unit(text.toString());
                int[] due = {12, 3, 9, way.equals("pipe") ? 9 : 3, 1};
                for (int what = 0; what < 5; what++) {
                    same("5: " + text + ", rule " + what, x.rule(what), due[what]);
                }
            }
        }
    }

    /** "must be told", "the length, if the TEXT ends too early (width, stages not told, too)". */
    private static void piecesThatMustBeTold() {
        for (int which = 1; which < 64; which++) {
            if ((which >> 3 & 3) == 3) {
                continue;
            }
            StringBuilder text = new StringBuilder();
            for (int piece = 0; piece < 6; piece++) {
                if ((which >> piece & 1) == 1) {
                    text.append(text.length() == 0 ? "" : ";").append(PIECES[piece]);
                }
            }
            boolean whole = (which & 1) == 1 && (which & 4) == 4;
            unit(text.toString(), whole ? NONE : text.length());
            unit(text + "  ", whole ? NONE : text.length() + 2);
            unit(text + ";", text.length() + 1);
            unit(text + "; ", text.length() + 2);
        }
    }

    /** "2 without", "pipe (so without fold)", near or not. */
    private static void whatIsNotTold() {
        int[][] due = {{6, 2, 24, 24, 0}, {6, 2, 24, 24, 0}, {6, 2, 24, 24, 1}, {6, 0, 24, 24, 0}, {6, 2, 24, 1, 0}};
        String[] texts = {"", ";pipe", ";near", ";guard 0", ";fold 1"};
        for (int i = 0; i < texts.length; i++) {
            TurnShifts x = Check.unit("width 6;stages 24" + texts[i]);
            for (int what = 0; what < 5; what++) {
                same("6: without the others, rule " + what, x.rule(what), due[i][what]);
            }
        }
    }

    private static void cutShort(String text, int what, int... faults) {
        TurnShifts x = new TurnShifts();
        Check.tape(x, text);
        same("as many as there are cuts", faults.length, text.length() + 1);
        for (int n = text.length(); n >= 0; n--) {
            Check.yes("3: the first " + n, x.end(n));
            same("4: \"" + text.substring(0, n) + "\"", x.fault(what), faults[n]);
        }
    }

    /** Each beginning of a TEXT: "the length, if the TEXT ends too early", and words, NUMBERS that are cut. */
    private static void unitsCutShort() {
        cutShort("width 12;stages 10;near", 0,
            0, 0, 0, 0, 0, 5, 6, 6, 8, 9, 9, 9, 9, 9, 9, 15, 16, 16, NONE, 19, 19, 19, 19, NONE);
        cutShort(" fold 1 ; pipe", 0, 0, 1, 1, 1, 1, 5, 6, 7, 8, 9, 10, 10, 10, 10, 10);
        for (String word : new String[] {"width", "guard", "stages", "fold"}) {
            unit(word, word.length());
            unit(word + "  ", word.length() + 2);
            unit(word + ";near", word.length());
        }
        unit("width 6;stages 5;guard", 22);
        unit("width 6;stages 5;fold", 21);
        unit("", 0);
        unit(" ", 1);
        unit(" ".repeat(400), 400);
        unit(" ".repeat(395) + "width", 400);
        unit(" ".repeat(394) + "width ", 400);
        unit(" ".repeat(395) + "widht", 395);
        unit("width 6;stages 5" + " ".repeat(384), NONE);
        unit("width 6;stages 5" + " ".repeat(383) + ";", 400);
        unit("width 6;stages 5" + " ".repeat(383) + "x", 399);
    }

    /** "an unknown word": words go as long as they can, and are told in small letters. */
    private static void wordsOfPieces() {
        String[] words = {"width", "guard", "stages", "pipe", "fold", "near"};
        String whole = "width 6;stages 5;";
        for (String word : words) {
            unit(word.toUpperCase(), 0);
            unit(word.substring(1), 0);
            unit(word.substring(0, word.length() - 1), 0);
            unit(word + "s 6", 0);
            unit("a" + word + " 6", 0);
            unit(word.substring(0, 2) + " " + word.substring(2) + " 6", 0);
            unit(word.substring(0, word.length() - 1) + "q 6", 0);
            unit("q" + word.substring(1) + " 6", 0);
            unit(whole + word + word, 17);
        }
        unit("sine 6", 0);
        unit(whole + "pipenear", 17);
        unit(whole + "pipe near", 22);
        unit(whole + "near1", 21);
        unit(whole + "pipe 1", 22);
        unit("width stages 5", 6);
        unit("width;stages 5", 5);
        unit("6 width", 0);
        unit("width 6;stages 5near", 16);
        unit("z".repeat(400), 0);
    }

    private static String with(String ahead, int one, String behind) {
        return ahead + (char) one + behind;
    }

    private static boolean isLetter(int one) {
        return one >= 'a' && one <= 'z';
    }

    private static boolean isDigit(int one) {
        return one >= '0' && one <= '9';
    }

    /** "any other byte", at each place where a part may begin or end: all 255 bytes. */
    private static void anyByteInAUnit() {
        for (int one = 1; one < 256; one++) {
            boolean blank = one == ' ';
            unit(with("", one, "width 6;stages 5"), blank ? NONE : 0);
            unit(with("width 6", one, ";stages 5"), blank ? NONE : isDigit(one) ? 6 : one == ';' ? 8 : 7);
            unit(with("width 6;", one, "stages 5"), blank ? NONE : 8);
            unit(with("width", one, "6;stages 5"),
                blank || one == '0' || one == '1' ? NONE : isLetter(one) ? 0 : 5);
            unit(with("width 1", one, ";stages 5"), isDigit(one) ? NONE : 6);
            unit(with("width 6;stages 5", one, ""),
                blank ? NONE : isDigit(one) ? 15 : one == ';' ? 17 : 16);
            unit(with("width 6;stages 5;near", one, ""), blank ? NONE : isLetter(one) ? 17 : one == ';' ? 22 : 21);
            unit(with("width 6;stages 5 ", one, "near"), one == ';' ? NONE : blank ? 18 : 17);
            unit(with("width ", one, ";stages 5"), one >= '6' && one <= '9' ? NONE : blank ? 7 : 6);
        }
    }

    /** "blanks (32) may stand ahead of and behind all parts". */
    private static void blanksInAUnit() {
        unit("  width  6  ;  guard  1  ;  stages  5  ;  fold  1  ;  near  ", NONE);
        unit("width6;guard1;stages5;fold1;near", NONE);
        unit("width 6; ;stages 5", 9);
        unit("width 6  x", 9);
        unit("  x", 2);
        unit("width   5", 8);
        unit("width 6;stages 5  ;  fold  13", 27);
    }

    /** "PIECES with ; between". */
    private static void semicolonsInAUnit() {
        unit(";", 0);
        unit(" ;width 6;stages 5", 1);
        unit("width 6;;stages 5", 8);
        unit("width 6;stages 5;;", 17);
        unit("width 6,stages 5", 7);
        unit("width 6:stages 5", 7);
        unit("width 6 guard 1;stages 5", 8);
    }

    /** "NONE: a FAULT (all stays, the TAPE, too)." */
    private static void unitRefused() {
        Watch.asks("5: a fault, no unit yet", x -> Check.tape(x, "width 6;stages"), x -> x.unit(), NONE);
        Watch.asks("5: a fault, an empty tape", x -> { }, x -> x.unit(), NONE);
        for (String text : new String[] {"", "sine 5;bow 1", "width 6;stages 25", "width 5;stages 5", "width 6;stages 5;"}) {
            Watch.asks("5: a fault", x -> {
                busy(x);
                Check.tape(x, text);
            }, x -> x.unit(), NONE);
        }
    }

    /** A unit with one job done, one under way, one that failed, two that wait, an image of earlier, held. */
    private static void busy(TurnShifts x) {
        Check.tape(x, "width 9;guard 1;stages 6;fold 4");
        x.unit();
        x.job(0, 300, 0, 0);
        x.job(9, 0, 0, 0);
        x.image();
        x.clock(7);
        x.job(4, 100, 0, 0);
        x.job(2, 100, 200, 0);
        x.job(3, 100, 200, 0);
        x.job(6, 100, 200, 0);
        x.link(4, 0, 1, 1);
        x.drop(2);
        x.clock(2);
        x.hold(true);
    }

    /** "The TAPE (empty then) is the UNIT (no JOBS, no CLOCKS yet, not HELD; STATUS stays): its STAGES." */
    private static void unitTaken() {
        Watch.alike("5: nothing of the unit ahead is left", x -> {
            Check.tape(x, "width 7;stages 8");
            x.unit();
        }, x -> {
            busy(x);
            Check.tape(x, "width 7;stages 8");
            x.unit();
        });
        TurnShifts x = new TurnShifts();
        busy(x);
        x.clock(0);
        x.hold(true);
        long[] before = {x.status(0), x.status(1), x.status(2), x.status(3)};
        Check.tape(x, "width 7;stages 8");
        same("5: its stages", x.unit(), 8);
        same("5: the tape is empty then", x.count(0), 0);
        for (int what = 0; what < 4; what++) {
            same("5: status stays", x.status(what), before[what]);
        }
        same("33: no image of this unit", x.back(), NONE);
        same("5: no such job", Watch.told(x, 0, 0), Long.MAX_VALUE);
        same("5: its first job", x.job(4, 5, 0, 0), 0);
        same("5: waits", x.waits(0), 0);
        same("5: its first clock", x.clock(1), 0);
        same("5: under way", x.register(0), 0);
        same("5: done", x.clock(9), 1);
        for (int stages = 5; stages <= 24; stages++) {
            Check.tape(x, "width 6;stages " + stages);
            same("5: its stages", x.unit(), stages);
        }
    }

    /** "perhaps - and 1 to 9 digits", "a NUMBER of more digits .. begins (its -, ..)". */
    private static void digitsInOrders() {
        for (int digits = 1; digits <= 12; digits++) {
            for (String digit : new String[] {"0", "1", "9"}) {
                String number = digit.repeat(digits);
                orders("sine " + number, digits <= 9 ? NONE : 5);
                orders("sine -" + number, digits <= 9 ? NONE : 5);
                orders("sine" + number, digits <= 9 ? NONE : 4);
                orders("polar 1 " + number, digits <= 9 ? NONE : 8);
                orders("polar 1-" + number, digits <= 9 ? NONE : 7);
                orders("turn 1 2 -" + number, digits <= 9 ? NONE : 9);
            }
        }
        for (String none : new String[] {"-", "--5", "- 5", "+5", "-a", "-;", "-@0", "-'"}) {
            orders("bow 1;sine " + none, 11);
        }
        orders("sine " + "7".repeat(395), 5);
        TurnShifts x = Check.unit("width 6;stages 5");
        Check.tape(x, "bow 1;turn @0 999999999 -999999999;turn -0 @0 000000007;turn 100000000 -00000012 @0");
        same("15: lines", x.orders(), 4);
        int[][] due = {{0, 999999999, -999999999}, {0, 0, 7}, {100000000, -12, 0}};
        for (int line = 0; line < 3; line++) {
            for (int what = 0; what < 3; what++) {
                same("15: as they were told", x.told(line + 1, what + 1), due[line][what]);
            }
        }
    }

    /** "@, one or two digits and perhaps '", "a @ of more digits or with no lower LINE begins (.. its @)". */
    private static void linksInOrders() {
        for (int line = 0; line < 60; line++) {
            String ahead = "bow1;".repeat(line) + "bow";
            for (int of : new int[] {0, line - 1, line, line + 1, 59, 60, 99}) {
                if (of >= 0) {
                    int fault = of < line ? NONE : ahead.length();
                    orders(ahead + "@" + of, fault);
                    orders(ahead + "@" + of + "'", fault);
                    orders(ahead + "@" + (of < 10 ? "0" : "") + of + "'", fault);
                    orders(ahead + "@0" + (of < 10 ? "0" : "") + of, ahead.length());
                }
            }
        }
        String ahead = "bow 1;bow 2;polar ";
        orders(ahead + "@0@1", NONE);
        orders(ahead + "@0'@1'", NONE);
        orders(ahead + "@1'5", NONE);
        orders(ahead + "@01-5", NONE);
        orders(ahead + "@01'@02'", 22);
        orders(ahead + "@015", 18);
        orders(ahead + "@0 '5", 21);
        orders(ahead + "@0''5", 21);
        orders(ahead + "'@0 5", 18);
        orders(ahead + "@", 18);
        orders(ahead + "@ 0 5", 18);
        orders(ahead + "@-0 5", 18);
        orders(ahead + "@'0 5", 18);
        orders(ahead + "@@0 5", 18);
        orders(ahead + "@a", 18);
        orders(ahead + "5@2", 19);
        orders(ahead + "5'@1", 19);
        orders("polar 5 @0", 8);
        orders("bow @0", 4);
        orders("bow @" + "0".repeat(395), 4);
    }

    /** "LINES with ; between, 1 to 60", "the 61st LINE at its word". */
    private static void linesOfOrders() {
        orders("", 0);
        orders("   ", 3);
        orders(" ".repeat(400), 400);
        orders("bow1", NONE);
        for (int lines = 1; lines <= 70; lines++) {
            String text = "log1;".repeat(lines - 1) + "log1";
            orders(text, lines <= 60 ? NONE : 300);
            orders(text + ";", lines < 60 ? text.length() + 1 : 300);
            orders(text + ";x", lines < 60 ? text.length() + 1 : 300);
            orders(text + " ;  bow1", lines < 60 ? NONE : lines == 60 ? text.length() + 4 : 300);
            orders(text + " ;  bow", lines < 60 ? text.length() + 7 : lines == 60 ? text.length() + 4 : 300);
        }
        String sixty = "bow1;".repeat(59) + "bow1";
        orders(sixty + "  ", NONE);
        orders(sixty + ";  ", 302);
        orders(sixty + ";;", 300);
        orders(sixty + " 5", 300);
        orders(sixty + "x", 299);
        orders(";", 0);
        orders(";bow1", 0);
        orders("bow1;;bow1", 5);
        orders("bow1,bow1", 4);
        orders("bow1 bow1", 5);
        orders("bow1bow1", 4);
    }

    /** "where a word that is none .. begins". */
    private static void wordsOfOrders() {
        for (int kind = 0; kind < 9; kind++) {
            String word = WORDS[kind];
            String rest = " 1 1 1".substring(0, 2 * NAMES[kind]);
            orders(word + rest, NONE);
            orders(word.toUpperCase() + rest, 0);
            orders(word.substring(1) + rest, 0);
            orders(word.substring(0, word.length() - 1) + rest, 0);
            orders(word + "s" + rest, 0);
            orders("a" + word + rest, 0);
            orders(word.substring(0, word.length() - 1) + "q" + rest, 0);
            orders("q" + word.substring(1) + rest, 0);
            orders(word.substring(0, 1) + " " + word.substring(1) + rest, 0);
            orders("bow 1; " + word + word + rest, 7);
            TurnShifts x = Check.unit("width 6;stages 5");
            Check.tape(x, word + rest);
            x.orders();
            same("15: the kind of " + word, x.told(0, 0), kind);
        }
        orders("width 6", 0);
        orders("5", 0);
        orders("-", 0);
        orders("@0", 0);
        orders("sine sine", 5);
        orders("bow 1; 5", 7);
        orders("z".repeat(400), 0);
    }

    /** "what it names (polar, times, over: a, b; turn: a, b, c; the others: a)". */
    private static void whatWordsName() {
        for (int kind = 0; kind < 9; kind++) {
            for (int told = 0; told <= 4; told++) {
                String text = WORDS[kind] + " 7".repeat(told);
                int fault = told < NAMES[kind] ? text.length()
                    : told == NAMES[kind] ? NONE : WORDS[kind].length() + 2 * NAMES[kind] + 1;
                orders(text, fault);
                if (told < NAMES[kind]) {
                    orders(text + ";bow 1", text.length());
                    orders(text + " x", text.length() + 1);
                    orders(text + "  ", text.length() + 2);
                }
            }
            String more = "log 1;" + WORDS[kind] + " @0".repeat(NAMES[kind]);
            orders(more + " @0", more.length() + 1);
            orders(more + "'", NONE);
        }
    }

    /** Each beginning of ORDERS; a - or @ that no digit follows is at fault itself, at the end, too. */
    private static void ordersCutShort() {
        cutShort("polar 12 -3;turn @0 @0' 5", 1,
            0, 0, 0, 0, 0, 5, 6, 7, 8, 9, 9, NONE, 12, 12, 12, 12, 16, 17, 17, 19, 20, 20, 22, 23, 24, NONE);
        orders(" ".repeat(396) + "sine", 400);
        orders(" ".repeat(394) + "sine 5", NONE);
        orders(" ".repeat(393) + "sine -5", NONE);
        orders(" ".repeat(394) + "sine -", 399);
        orders("bow 1;" + " ".repeat(388) + "bow @0", NONE);
        orders("bow 1;" + " ".repeat(387) + "bow @0'", NONE);
        orders("bow 1;" + " ".repeat(389) + "bow @", 399);
        orders(" ".repeat(395) + "bow1;", 400);
        orders("sine 5" + " ".repeat(393) + "x", 399);
    }

    /** "FAULT: as in 1", so any other byte, at each place where a part may begin or end: all 255 bytes. */
    private static void anyByteInOrders() {
        for (int one = 1; one < 256; one++) {
            boolean blank = one == ' ';
            boolean fine = blank || isDigit(one);
            orders(with("", one, "sine 5"), blank ? NONE : 0);
            orders(with("sine", one, "5"), fine || one == '-' ? NONE : isLetter(one) ? 0 : 4);
            orders(with("sine 5", one, ""), fine ? NONE : one == ';' ? 7 : 6);
            orders(with("sine 5;", one, "log 1"), blank ? NONE : 7);
            orders(with("sine 5 ", one, " log 1"), one == ';' ? NONE : blank ? 9 : 7);
            orders(with("sine ", one, ""), isDigit(one) ? NONE : blank ? 6 : 5);
            orders(with("sine -", one, ""), isDigit(one) ? NONE : 5);
            orders(with("polar 5", one, "7"), blank || one == '-' ? NONE : isDigit(one) ? 9 : 7);
            orders(with("bow 5;polar@0", one, "7"),
                blank || one == '-' || one == '\'' ? NONE : isDigit(one) ? 11 : 13);
            orders(with("bow 5;log@", one, ""), one == '0' ? NONE : 9);
            orders(with("bow 5;log@0", one, ""),
                blank || one == '0' || one == '\'' ? NONE : isDigit(one) ? 9 : one == ';' ? 12 : 11);
            orders(with("bow 5;log@0'", one, ""), blank ? NONE : one == ';' ? 13 : 12);
        }
    }

    /** "blanks (32) may stand ahead of and behind all else". */
    private static void blanksInOrders() {
        orders("  sine  5  ;  polar  @0'  -3  ;  turn  1  @1  @0  ", NONE);
        orders("sine5;polar@0'-3;turn1@1@0", NONE);
        orders("sine -5;bow - 5", 12);
        orders("sine -5; ;bow 5", 9);
        orders("sine 5   x", 9);
        orders("   x", 3);
    }

    /** A FAULT is asked of the TAPE alone. */
    private static void faultsWithoutAUnit() {
        TurnShifts x = new TurnShifts();
        Check.tape(x, "log 0");
        same("4: out of bounds is no fault", x.fault(1), NONE);
        Check.tape(x, "over 1 0");
        same("4: out of bounds is no fault", x.fault(1), NONE);
        Check.tape(x, "width 6;stages 5");
        x.unit();
        Check.tape(x, "bow 999999999");
        same("4: out of bounds is no fault", x.fault(1), NONE);
        same("4: no such call is counted", x.status(1), 0);
    }

    private static void with60(TurnShifts x, int jobs) {
        Check.tape(x, "width 6;guard 0;stages 5");
        x.unit();
        for (int job = 0; job < jobs; job++) {
            x.job(4, 1, 0, 0);
        }
    }

    /** "NONE: no UNIT (STATUS 0), a FAULT, a LINE without @ is out of bounds (1), .. more than 60 (2) (all stays ..)". */
    private static void ordersRefused() {
        Watch.refused("15: no unit", x -> Check.tape(x, "sine 5"), x -> x.orders(), NONE, 0);
        Watch.refused("15: no unit ahead of a fault", x -> Check.tape(x, "sine"), x -> x.orders(), NONE, 0);
        String[] faulty = {"", " ", "sine", "sine 5;", "sine 5;log", "log 64;bow @1", "bow 1;".repeat(60) + "bow 1"};
        for (String text : faulty) {
            Watch.refused("15: a fault: " + text, x -> {
                busy(x);
                Check.tape(x, text);
            }, x -> x.orders(), NONE, 1);
        }
        String[] beyond = {"log 0", "sine 5;log 0", "log 0;sine 5", "sine 5;bow @0;over 1 0;sine 5", "bow 513", "bow -513",
            "bow 1;times 1 @0;bow 513", "bow 1;turn 1 1 @0;bow 513", "bow 1;bow 513;turn @0 @0 @0"};
        for (String text : beyond) {
            Watch.refused("15: out of bounds: " + text, x -> {
                busy(x);
                Check.tape(x, text);
            }, x -> x.orders(), NONE, 1);
        }
        Watch.refused("15: 61", x -> {
            with60(x, 60);
            Check.tape(x, "bow 1");
        }, x -> x.orders(), NONE, 2);
        Watch.refused("15: 58 and 3", x -> {
            with60(x, 58);
            Check.tape(x, "bow 1;bow 1;bow @0");
        }, x -> x.orders(), NONE, 2);
        Watch.refused("15: a fault ahead of 61", x -> {
            with60(x, 60);
            Check.tape(x, "bow");
        }, x -> x.orders(), NONE, 1);
        Watch.refused("15: out of bounds ahead of 61", x -> {
            with60(x, 60);
            Check.tape(x, "bow 1;bow 65");
        }, x -> x.orders(), NONE, 1);
    }

    /** "a LINE without @ must not be out of bounds, one with @ is asked as it is brought in." */
    private static void ordersTaken() {
        TurnShifts x = Check.unit("width 6;guard 0;stages 5");
        Check.tape(x, "sine 2048;bow 64;bow -64");
        same("15: the last within", x.orders(), 3);
        Check.tape(x, "bow 1;times @0 1025;polar @0 -2049;over @0 0;turn @0' 1 99999;bow @1");
        same("15: with @", x.orders(), 6);
        same("15: the tape is empty", x.count(0), 0);
        same("15: as many jobs", x.rule(6), 9);
        same("15: all wait", x.rule(7), 9);
        int[] of = {NONE, 6, 6, 6, 7, 8};
        for (int line = 0; line < 6; line++) {
            same("15: linked to the job of the line", x.linked(3 + line, 0), of[line]);
            same("15: 0 till then", x.told(3 + line, 1), line == 0 ? 1 : 0);
        }
        Check.tape(x, "bow 1;times 1025 @0;turn 1025 @0' 1;turn 1 9999 @0;turn @0 @1' @2");
        same("15: @ of b, of c alone", x.orders(), 5);
        int[][] links = {{NONE, NONE, NONE}, {NONE, 18, NONE}, {NONE, 19, NONE}, {NONE, NONE, 18}, {18, 21, 22}};
        int[][] told = {{1, 0, 0}, {1025, 0, 0}, {1025, 0, 1}, {1, 9999, 0}, {0, 0, 0}};
        for (int line = 0; line < 5; line++) {
            for (int what = 0; what < 3; what++) {
                same("15: linked(" + (9 + line) + ", " + what + ")", x.linked(9 + line, what), links[line][what]);
                same("15: told(" + (9 + line) + ", " + what + ")", x.told(9 + line, 1 + what), told[line][what]);
            }
        }
        Check.tape(x, "turn 7 8 9;turn 7 8 9");
        x.fault(1);
        Check.tape(x, "bow 5;times 6 7");
        same("15: behind those", x.orders(), 2);
        int[][] named = {{5, 0, 0}, {6, 7, 0}};
        for (int line = 0; line < 2; line++) {
            for (int what = 0; what < 3; what++) {
                same("15: what isn't named is 0", x.told(14 + line, 1 + what), named[line][what]);
                same("15: not linked", x.linked(14 + line, what), NONE);
            }
        }
        x.clock(100);
        for (int job = 0; job < 9; job++) {
            same("15: asked as it is brought in, job " + job, x.told(job, 4), job < 4 ? 2 : 3);
        }
        for (int job = 10; job < 14; job++) {
            same("15: out of bounds, linked to one that failed, job " + job, x.told(job, 4), 3);
        }
        same("15: nothing was refused", x.status(1), 0);
    }

    /** "there would be more than 60". */
    private static void ordersUpToSixty() {
        for (int jobs : new int[] {0, 1, 30, 59}) {
            TurnShifts x = new TurnShifts();
            with60(x, jobs);
            Check.tape(x, "bow1;".repeat(60 - jobs) + "bow1");
            same("15: 61", x.orders(), NONE);
            same("15: 61: none", x.rule(6), jobs);
            same("15: 61: status", x.status(jobs == 0 ? 1 : 2), 1);
            x.end(5 * (60 - jobs) - 1);
            same("15: 60", x.orders(), 60 - jobs);
            same("15: 60", x.rule(6), 60);
        }
    }
}
