import java.lang.reflect.InvocationTargetException;
import java.lang.reflect.Method;
import java.lang.reflect.Modifier;
import java.util.Random;

/** No call throws, for any arguments in any state: also far behind the 512th call, when COSTS went beyond an int. */
public final class NeverThrowsTest {
    private static final int[] EDGES = {Integer.MIN_VALUE, Integer.MIN_VALUE + 1, -1000, -2, -1, 0, 1, 2, 3, 4, 5, 6, 12, 14, 15, 20, 23, 24, 25, 28, 29, 31, 32,
        33, 48, 49, 60, 61, 99, 100, 399, 400, 401, 998, 999, 1000, 1001, 99999, 100000, 1000000, 1000001, Integer.MAX_VALUE - 1, Integer.MAX_VALUE};
    private static int thrown = 0;

    private static void call(MissCurves x, Method m, Random draws) {
        Object[] args = new Object[m.getParameterCount()];
        for (int i = 0; i < args.length; i++) {
            args[i] = draws.nextInt(5) == 0 ? draws.nextInt() : EDGES[draws.nextInt(EDGES.length)];
        }
        try {
            m.invoke(x, args);
        } catch (InvocationTargetException e) {
            thrown++;
            System.out.println(m.getName() + java.util.Arrays.toString(args) + " threw " + e.getCause());
        } catch (IllegalAccessException e) {
            throw new IllegalStateException(e);
        }
    }

    private static void tell(MissCurves x, String text) {
        x.end(0);
        for (int i = 0; i < text.length(); i += 20) {
            int[] n = new int[5];
            for (int k = 0; k < 20; k++) {
                n[k / 4] = n[k / 4] << 8 | (i + k < text.length() ? text.charAt(i + k) : 0);
            }
            x.feed(n[0], n[1], n[2], n[3], n[4]);
        }
        x.end(text.length());
    }

    private static MissCurves beyondAnInt() {
        MissCurves x = new MissCurves();
        tell(x, "costs 99");
        x.law();
        x.force(0);
        String loops = "loop 0 to 31 by 0 times 20;".repeat(11) + "loop 0 to 22 by 0 times 20";
        for (int i = 0; i < 3000; i++) {
            tell(x, loops);
            x.orders();
        }
        return x;
    }

    public static void main(String[] args) {
        for (int seed = 0; seed < 40; seed++) {
            Random draws = new Random(seed);
            MissCurves x = seed == 0 ? beyondAnInt() : new MissCurves();
            for (int i = 0; i < 5000; i++) {
                for (Method m : MissCurves.class.getDeclaredMethods()) {
                    if (Modifier.isPublic(m.getModifiers()) && draws.nextInt(4) == 0 && thrown < 10) {
                        call(x, m, draws);
                    }
                }
            }
        }
        System.out.println(thrown == 0 ? "no call throws" : "calls throw");
        if (thrown != 0) {
            System.exit(1);
        }
    }
}
