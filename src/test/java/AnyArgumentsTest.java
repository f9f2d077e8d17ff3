import java.lang.reflect.InvocationTargetException;
import java.lang.reflect.Method;
import java.util.Arrays;
import java.util.Comparator;
import java.util.Random;

/** Calls with any arguments in any order: none throws, the same calls answer the same, what is kept is in bounds. */
public final class AnyArgumentsTest {
    private static final int[] ODD = {Integer.MIN_VALUE, -1000, -2, -1, 0, 1, 2, 3, 4, 5, 9, 10, 11, 12, 20, 21, 59, 60,
        61, 96, 99, 100, 255, 256, 1000, Integer.MAX_VALUE};
    private static final String LETTERS = "srcvbg;0123456789";

    private AnyArgumentsTest() {
    }

    public static void main(String[] args) {
        Method[] calls = Arrays.stream(FreeWheelDown.class.getDeclaredMethods())
            .filter(m -> java.lang.reflect.Modifier.isPublic(m.getModifiers())).toArray(Method[]::new);
        Arrays.sort(calls, Comparator.comparing(Method::getName));
        Check.due("calls of the document's face", calls.length, 47);
        for (int seed = 0; seed < 400; seed++) {
            long first = run(calls, seed);
            if (seed % 8 == 0) {
                Check.due("the same calls again", run(calls, seed), first);
            }
        }
        Check.end();
    }

    private static long run(Method[] calls, int seed) {
        Random random = new Random(seed);
        FreeWheelDown x = new FreeWheelDown();
        long sum = 0;
        for (int i = 0; i < 512; i++) {
            int kind = random.nextInt(8);
            if (kind == 0) {
                sum = sum * 31 + tellStatement(x, random);
            } else if (kind == 1) {
                sum = sum * 31 + x.stretch(random.nextInt(6), random.nextInt(10));
            } else if (kind == 2) {
                sum = sum * 31 + x.rider(1 + random.nextInt(9), random.nextInt(10));
            } else {
                sum = sum * 31 + call(x, calls[random.nextInt(calls.length)], random);
            }
            bounds(x);
        }
        return sum;
    }

    private static int tellStatement(FreeWheelDown x, Random random) {
        String[] forms = {"sdd;", "rdd;", "cdd;", "vdd;", "b;", "gdd;", "x", ""};
        String form = forms[random.nextInt(random.nextInt(4) == 0 ? 8 : 6)];
        for (int i = 0; i < form.length(); i++) {
            int digit = '0' + random.nextInt(random.nextBoolean() ? 10 : 4);
            x.feed(form.charAt(i) == 'd' ? digit : form.charAt(i));
        }
        return random.nextInt(3) == 0 ? x.hill() : 0;
    }

    private static long call(FreeWheelDown x, Method call, Random random) {
        Object[] arguments = new Object[call.getParameterCount()];
        for (int i = 0; i < arguments.length; i++) {
            int pick = random.nextInt(8);
            arguments[i] = pick == 0 ? ODD[random.nextInt(ODD.length)]
                : pick == 1 ? LETTERS.charAt(random.nextInt(LETTERS.length())) : random.nextInt(pick < 5 ? 4 : 12);
            if (arguments[i] instanceof Character) {
                arguments[i] = (int) (Character) arguments[i];
            }
        }
        try {
            return ((Number) call.invoke(x, arguments)).longValue();
        } catch (InvocationTargetException thrown) {
            Check.holds(call.getName() + Arrays.toString(arguments) + " threw " + thrown.getCause(), false);
        } catch (IllegalAccessException hidden) {
            Check.holds(call.getName() + " is hidden", false);
        }
        return 0;
    }

    private static void bounds(FreeWheelDown x) {
        int[] most = {10, 5, 99, 999, 10, 96, 12, 8};
        for (int what = 0; what < most.length; what++) {
            Check.holds("count(" + what + ") in bounds", x.count(what) >= 0 && x.count(what) <= most[what]);
        }
        Check.holds("at in bounds", x.bicycle(0) >= 0 && x.bicycle(0) <= x.count(0));
        Check.holds("speed in bounds", x.bicycle(1) >= 0 && x.bicycle(1) <= 99);
        Check.holds("rider in bounds", x.bicycle(2) == -9 || x.bicycle(2) >= 0 && x.bicycle(2) < x.count(1));
        Check.holds("how in bounds", x.bicycle(3) >= 0 && x.bicycle(3) <= 3);
    }
}
