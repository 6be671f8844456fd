import java.lang.reflect.InvocationTargetException;
import java.lang.reflect.Method;
import java.lang.reflect.Modifier;
import java.util.ArrayList;
import java.util.Arrays;
import java.util.Comparator;
import java.util.List;
import java.util.Random;

/**
 * Whatever is called with whatever arguments, far beyond the 512 calls that have promised answers: a call ends, throws
 * nothing but what its head tells, and the same calls give the same answers.
 */
public final class AnyStateTest {
    private static final int OBJECTS = 60;
    private static final int CALLS = 5000;
    private static final int[] WILD = {Integer.MIN_VALUE, Integer.MIN_VALUE + 1, -1500, -121, -61, -31, -3, -2, -1, 0,
        1, 2, 5, 6, 7, 8, 10, 11, 12, 13, 29, 30, 31, 39, 40, 41, 59, 60, 61, 119, 120, 121, 254, 255, 256, 1499, 1500,
        1501, 65536, Integer.MAX_VALUE - 1, Integer.MAX_VALUE};
    private static final String SIGNS = "ab1 -,|*+?.^$\\()[]\u0001\u00ff";

    private final Random drawn;
    private final LineRules one = new LineRules();
    private final LineRules other = new LineRules();

    private AnyStateTest(int seed) {
        drawn = new Random(seed);
    }

    public static void main(String[] args) throws IllegalAccessException {
        List<Method> face = face();
        Check.due("calls of the face", face.size(), 16);
        for (int n = 0; n < OBJECTS; n++) {
            new AnyStateTest(n).run(face);
        }
        Check.finish();
    }

    private static List<Method> face() {
        List<Method> face = new ArrayList<>();
        for (Method method : LineRules.class.getDeclaredMethods()) {
            if (Modifier.isPublic(method.getModifiers())) {
                face.add(method);
            }
        }
        // reflection tells them in no order of its own
        face.sort(Comparator.comparing(Method::getName));
        return face;
    }

    private void run(List<Method> face) throws IllegalAccessException {
        for (int n = 0; n < CALLS; n++) {
            Method call = drawnCall(face);
            Object[] arguments = new Object[call.getParameterCount()];
            for (int i = 0; i < arguments.length; i++) {
                arguments[i] = call.getName().equals("feed") ? word() : argument();
            }
            String what = call.getName() + Arrays.toString(arguments);
            Object answer = answer(one, call, arguments);
            Check.due(what + " throws what its head tells", isTold(call, answer), true);
            Check.due(what + " of a twin", answer(other, call, arguments), answer);
        }
    }

    /** forget and clear come seldom: rules and pads are to get full, too. */
    private Method drawnCall(List<Method> face) {
        Method call = face.get(drawn.nextInt(face.size()));
        boolean empties = call.getName().equals("forget") || call.getName().equals("clear");
        return empties && drawn.nextInt(20) > 0 ? drawnCall(face) : call;
    }

    private int argument() {
        return drawn.nextInt(3) == 0 ? WILD[drawn.nextInt(WILD.length)] : drawn.nextInt(8);
    }

    private int word() {
        StringBuilder signs = new StringBuilder();
        for (int n = drawn.nextInt(5); n > 0; n--) {
            signs.append(SIGNS.charAt(drawn.nextInt(SIGNS.length())));
        }
        return Check.word(signs.toString(), 0);
    }

    /** What the call answers, or the class of what it throws. */
    private static Object answer(LineRules x, Method call, Object[] arguments) throws IllegalAccessException {
        try {
            return call.invoke(x, arguments);
        } catch (InvocationTargetException e) {
            return e.getCause().getClass();
        }
    }

    private static boolean isTold(Method call, Object answer) {
        return answer instanceof Integer || Arrays.asList(call.getExceptionTypes()).contains(answer);
    }
}
