import java.lang.reflect.InvocationTargetException;
import java.lang.reflect.Method;
import java.lang.reflect.Modifier;
import java.util.NoSuchElementException;

/**
 * Every call of the face with every mixture of arguments at and beyond bounds, in states from a new object to a full one:
 * nothing is thrown but what told() promises, and that only where there is no such job or nothing such of it.
 */
public final class ArgumentsTest {
    /** So that no object is used for more than 512 calls, those of its making with it. */
    private static final int CALLS_OF_ONE = 300;
    private static final int[] FEW = {Integer.MIN_VALUE, -1, 0, 1, Integer.MAX_VALUE};
    private static final int[] MANY = {Integer.MIN_VALUE, Integer.MIN_VALUE + 1, -1073741825, -65, -2, -1, 0, 1, 2, 3, 4, 5,
        6, 8, 9, 11, 12, 24, 31, 32, 59, 60, 61, 100, 101, 200, 201, 400, 401, 1073741824, Integer.MAX_VALUE};
    private static final int[] SOME = {Integer.MIN_VALUE, -1, 0, 1, 2, 3, 5, 6, 8, 9, 59, 60, Integer.MAX_VALUE};

    private static TurnShifts x;
    private static int made;
    private static long calls;

    private ArgumentsTest() {
    }

    public static void main(String[] args) throws IllegalAccessException {
        for (int state = 0; state < 5; state++) {
            for (Method method : TurnShifts.class.getDeclaredMethods()) {
                if (Modifier.isPublic(method.getModifiers())) {
                    all(state, method);
                }
            }
        }
        System.out.println(calls + " calls");
        Check.end();
    }

    private static void all(int state, Method method) throws IllegalAccessException {
        int many = method.getParameterCount();
        int[] values = many <= 1 ? MANY : many <= 3 ? SOME : FEW;
        long mixtures = 1;
        for (int i = 0; i < many; i++) {
            mixtures *= values.length;
        }
        made = CALLS_OF_ONE;
        for (long mixture = 0; mixture < mixtures; mixture++) {
            Object[] given = new Object[many];
            long rest = mixture;
            for (int i = 0; i < many; i++) {
                int value = values[(int) (rest % values.length)];
                given[i] = method.getParameterTypes()[i] == boolean.class ? (Object) (value == 0) : (Object) value;
                rest /= values.length;
            }
            call(state, method, given);
        }
    }

    private static void call(int state, Method method, Object[] given) throws IllegalAccessException {
        if (made >= CALLS_OF_ONE) {
            x = inState(state);
            made = 0;
        }
        made++;
        calls++;
        int jobs = method.getName().equals("told") ? x.rule(6) : 0;
        boolean mayThrow = method.getName().equals("told")
            && ((int) given[0] < 0 || (int) given[0] >= jobs || (int) given[1] < 0 || (int) given[1] > 9);
        String what = method.getName() + java.util.Arrays.toString(given) + " in state " + state;
        try {
            method.invoke(x, given);
            Check.no(what + " throws nothing", mayThrow);
        } catch (InvocationTargetException e) {
            Check.yes(what + " throws " + e.getCause(),
                mayThrow && e.getCause().getClass() == NoSuchElementException.class);
        }
        if (method.getName().equals("told")) {
            made++;
        }
    }

    /** A new object, a unit alone, jobs of all states with an image, 60 that wait, 60 that are over and a full tape. */
    private static TurnShifts inState(int state) {
        TurnShifts x = new TurnShifts();
        if (state > 0) {
            Check.tape(x, state == 2 ? "width 22;guard 4;stages 24;near" : "width 6;guard 0;stages 5;fold 12");
            x.unit();
        }
        int jobs = state == 2 ? 6 : state > 2 ? 60 : 0;
        for (int job = 0; job < jobs; job++) {
            x.job(job % 9, 1 + job % 7, 1 + job % 5, 1 + job % 3);
        }
        if (state == 2) {
            x.drop(1);
            x.link(3, 0, 1, 0);
            x.link(5, 1, 2, 1);
            x.image();
            x.clock(26);
        }
        if (state == 4) {
            x.clock(100);
            Check.tape(x, "bow@0;".repeat(66) + "bow@");
        }
        return x;
    }
}
