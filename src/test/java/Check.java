import java.nio.charset.StandardCharsets;
import java.util.NoSuchElementException;

/** What the tests share: counting wrong answers, and feeding a text. */
final class Check {
    private static int checks;
    private static int wrong;

    private Check() {
    }

    static void same(String what, long got, long want) {
        checks++;
        if (got != want) {
            wrong++;
            System.out.println(what + " answered " + got + ", due is " + want);
        }
    }

    static void yes(String what, boolean got) {
        same(what, got ? 1 : 0, 1);
    }

    static void no(String what, boolean got) {
        same(what, got ? 1 : 0, 0);
    }

    static void noSuch(String what, TurnShifts x, int job, int asked) {
        boolean thrown = false;
        try {
            x.told(job, asked);
        } catch (NoSuchElementException e) {
            thrown = true;
        }
        yes(what + " throws NoSuchElementException", thrown);
    }

    static void end() {
        System.out.println(checks + " checks, " + wrong + " wrong");
        if (wrong != 0) {
            System.exit(1);
        }
    }

    /** Puts a text on an empty tape; the last answer of feed(). */
    static int tape(TurnShifts x, String text) {
        x.end(0);
        return more(x, text);
    }

    static int more(TurnShifts x, String text) {
        byte[] bytes = text.getBytes(StandardCharsets.ISO_8859_1);
        int answer = x.count(0);
        for (int at = 0; at < bytes.length; at += 20) {
            int[] w = new int[5];
            for (int i = 0; i < 20 && at + i < bytes.length; i++) {
                w[i / 4] |= (bytes[at + i] & 255) << (24 - 8 * (i % 4));
            }
            answer = x.feed(w[0], w[1], w[2], w[3], w[4]);
        }
        return answer;
    }

    static TurnShifts unit(String text) {
        TurnShifts x = new TurnShifts();
        tape(x, text);
        if (x.unit() == TurnShifts.NONE) {
            same("unit() of " + text, TurnShifts.NONE, 0);
        }
        return x;
    }

    static int unitFault(String text) {
        TurnShifts x = new TurnShifts();
        tape(x, text);
        return x.fault(0);
    }

    static int ordersFault(String text) {
        TurnShifts x = new TurnShifts();
        tape(x, text);
        return x.fault(1);
    }
}
