import java.lang.reflect.InvocationTargetException;
import java.lang.reflect.Method;
import java.lang.reflect.Modifier;
import java.util.ArrayList;
import java.util.Arrays;
import java.util.Comparator;
import java.util.List;

/** No call throws, for any arguments in any state (LANGUAGE.md 7). */
public final class AnyCallTest {
    private static final int RUNS = 300;
    private static final int CALLS = 700;
    private static final int[] ODD = {Integer.MAX_VALUE, Integer.MIN_VALUE, -1, -2, 6, 7, 60, 61, 127, 128, 255, 256, 9999};
    private static final String SIGNS = "likemndho tvw<=>()!&|;0123456789";
    private static final String[] TEXTS = {"need 0", "like 3 t<4;need 0", "mind 2 !(w>1&d<5)|k=2;hold 5", "like 9 m>2"};

    private static long seed = 1;

    private static int upTo(int bound) {
        seed = seed * 6364136223846793005L + 1442695040888963407L;
        return (int) ((seed >>> 33) % bound);
    }

    private static Object argument(Class<?> type, String name) {
        if (type == boolean.class) {
            return upTo(2) == 0;
        }
        int v = upTo(12) == 0 ? ODD[upTo(ODD.length)] : upTo(7);
        if (name.equals("feed")) {
            v = SIGNS.charAt(upTo(SIGNS.length()));
        }
        if (type == long.class) {
            return upTo(2) == 0 ? (long) v : v * 1234567890123456789L;
        }
        return v;
    }

    private static boolean call(PickedMatch x, Method m) throws IllegalAccessException {
        if (m.getName().equals("street") && upTo(3) == 0) {
            for (char sign : TEXTS[upTo(TEXTS.length)].toCharArray()) {
                x.feed(sign);
            }
        }
        Object[] arguments = new Object[m.getParameterCount()];
        for (int i = 0; i < arguments.length; i++) {
            arguments[i] = argument(m.getParameterTypes()[i], m.getName());
        }
        try {
            m.invoke(x, arguments);
            return true;
        } catch (InvocationTargetException thrown) {
            System.out.println("AnyCallTest: " + m.getName() + Arrays.toString(arguments));
            thrown.getCause().printStackTrace(System.out);
            return false;
        }
    }

    public static void main(String[] args) throws IllegalAccessException {
        List<Method> methods = new ArrayList<>();
        for (Method m : PickedMatch.class.getDeclaredMethods()) {
            if (Modifier.isPublic(m.getModifiers())) {
                methods.add(m);
            }
        }
        methods.sort(Comparator.comparing(Method::getName));
        for (int run = 0; run < RUNS; run++) {
            PickedMatch x = new PickedMatch();
            for (int i = 0; i < CALLS; i++) {
                if (!call(x, methods.get(upTo(methods.size())))) {
                    System.exit(1);
                }
            }
        }
        System.out.println("AnyCallTest: no call threw");
    }
}
