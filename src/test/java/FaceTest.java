import java.lang.reflect.Constructor;
import java.lang.reflect.Field;
import java.lang.reflect.Method;
import java.lang.reflect.Modifier;
import java.util.Arrays;
import java.util.NoSuchElementException;
import java.util.Set;
import java.util.TreeSet;

/** The face of the class as the document has it, and what of LANGUAGE.md can be seen from the compiled class. */
public final class FaceTest {
    private static final String[] FACE = {
        "int feed(int,int,int,int,int)", "boolean end(int)", "int fault(int)", "int unit()", "int rule(int)",
        "int constant(int)", "int stage(int,int,int)", "int mode(int,int)", "int digit(int,int)",
        "int takenOut(int,int)", "int value(int,int,int,int,int)", "int off(int)", "int job(int,int,int,int)",
        "int orders()", "boolean drop(int)", "boolean link(int,int,int,int)", "int linked(int,int)", "int clock(int)",
        "boolean hold(boolean)", "int told(int,int)", "int result(int,int)", "long trace(int,int,int)",
        "int signs(int)", "int register(int)", "int place(int)", "int allOver()", "int finest(int,int,int,int,int)",
        "long apart(int,int,int,int,int)", "int fewest(int,int)", "long sweep(int,int,int,int,int)", "int image()",
        "int back()", "int waits(int)", "int status(int)", "long most(int)", "int count(int)",
    };

    private FaceTest() {
    }

    public static void main(String[] args) {
        Check.same("NONE", TurnShifts.NONE, -1);
        Check.same("HIDDEN", TurnShifts.HIDDEN, Integer.MIN_VALUE);
        Class<?> face = TurnShifts.class;
        Check.yes("public final", Modifier.isPublic(face.getModifiers()) && Modifier.isFinal(face.getModifiers()));
        Set<String> shown = new TreeSet<>();
        Set<String> names = new TreeSet<>();
        for (Method method : face.getDeclaredMethods()) {
            if (!Modifier.isPrivate(method.getModifiers())) {
                shown.add(signature(method));
                names.add(method.getName());
                throwsAsTold(method);
            }
        }
        Set<String> due = new TreeSet<>(Arrays.asList(FACE));
        Check.yes("the methods: " + shown, shown.equals(due));
        for (Field field : face.getDeclaredFields()) {
            boolean constant = field.getName().equals("NONE") || field.getName().equals("HIDDEN");
            Check.yes("a constant: " + field, !constant || field.getType() == int.class
                && field.getModifiers() == (Modifier.PUBLIC | Modifier.STATIC | Modifier.FINAL));
            Check.yes("no other field is seen: " + field, constant || Modifier.isPrivate(field.getModifiers()));
        }
        Constructor<?>[] made = face.getDeclaredConstructors();
        Check.yes("one constructor", made.length == 1 && made[0].getParameterCount() == 0
            && Modifier.isPublic(made[0].getModifiers()) && made[0].getExceptionTypes().length == 0);
        inside(face, names, true);
        for (Class<?> nested : face.getDeclaredClasses()) {
            inside(nested, names, false);
            Check.yes("static: " + nested, Modifier.isStatic(nested.getModifiers()));
        }
        Check.yes("at most twelve classes", face.getDeclaredClasses().length <= 11);
        Check.end();
    }

    /** "int told(int job, int what) throws NoSuchElementException": no other names one. */
    private static void throwsAsTold(Method method) {
        Class<?>[] named = method.getExceptionTypes();
        boolean told = method.getName().equals("told");
        Check.same("exceptions that are named: " + method, named.length, told ? 1 : 0);
        Check.yes("it is this one: " + method, !told || named.length == 1 && named[0] == NoSuchElementException.class);
        Check.yes("public, of the object: " + method, method.getModifiers() == Modifier.PUBLIC);
    }

    private static String signature(Method method) {
        StringBuilder all = new StringBuilder(method.getReturnType().getName());
        all.append(' ').append(method.getName()).append('(');
        for (Class<?> type : method.getParameterTypes()) {
            all.append(all.charAt(all.length() - 1) == '(' ? "" : ",").append(type.getName());
        }
        return all.append(')').toString();
    }

    private static void inside(Class<?> type, Set<String> names, boolean isFace) {
        for (Method method : type.getDeclaredMethods()) {
            Check.yes("at most seven parameters: " + method, method.getParameterCount() <= 7);
            boolean shown = isFace && !Modifier.isPrivate(method.getModifiers());
            Check.yes("not a name of the face: " + method, shown || !names.contains(method.getName()));
        }
        int fields = 0;
        for (Field field : type.getDeclaredFields()) {
            boolean fixed = Modifier.isStatic(field.getModifiers());
            Check.yes("static fields are final: " + field, !fixed || Modifier.isFinal(field.getModifiers()));
            fields += fixed ? 0 : 1;
        }
        Check.yes("at most twenty fields: " + type, fields <= 20);
    }
}
