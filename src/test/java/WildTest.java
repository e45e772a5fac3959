import java.lang.reflect.InvocationTargetException;
import java.lang.reflect.Method;
import java.lang.reflect.Modifier;
import java.util.ArrayList;
import java.util.List;
import java.util.NoSuchElementException;

/** Any arguments in any state: nothing is thrown but by row, for no such number. */
public final class WildTest {
    private static final int[] POOL = {Integer.MIN_VALUE, Integer.MIN_VALUE + 1, -1000, -62, -11, -4, -3, -2, -1, 0, 0, 1,
        1, 2, 2, 3, 4, 5, 6, 7, 8, 9, 10, 11, 12, 59, 60, 61, 62, 63, 64, 80, 81, 127, 128, 255, 256, 5000, 5001, 65535,
        1000003, 2004318071, 1999699968, 1647378432, 2016423216, Integer.MAX_VALUE - 1, Integer.MAX_VALUE};

    private static long seed = 4711;

    private static int draw(int n) {
        seed = seed * 6364136223846793005L + 1442695040888963407L;
        return (int) ((seed >>> 33) % n);
    }

    public static void main(String[] args) throws IllegalAccessException {
        List<Method> calls = new ArrayList<>();
        for (Method m : NotWhereYesterday.class.getDeclaredMethods()) {
            if (Modifier.isPublic(m.getModifiers())) {
                calls.add(m);
            }
        }
        calls.sort((a, b) -> a.getName().compareTo(b.getName()));
        for (int run = 0; run < 200; run++) {
            Checks.part("run " + run);
            wild(calls);
        }
        Checks.end();
    }

    private static void wild(List<Method> calls) throws IllegalAccessException {
        NotWhereYesterday x = new NotWhereYesterday();
        for (int i = draw(12); i > 0; i--) {
            x.person(draw(64), 1 + draw(9));
        }
        for (int i = draw(12); i > 0; i--) {
            x.post(draw(7) - 1, draw(2) == 0, 1 + draw(9), draw(11));
        }
        String[] rules = {"", "w1", "w2;b1", "b1;x0-1;x9-9", "w9;b9;f0;f9", "a0,0-99;a9,3-60;w1;x1-0;f1"};
        Checks.told(x, rules[draw(rules.length)]);
        for (int i = 0; i < 480; i++) {
            Method m = calls.get(draw(calls.size()));
            Object[] with = new Object[m.getParameterCount()];
            for (int k = 0; k < with.length; k++) {
                boolean flag = m.getParameterTypes()[k] == boolean.class;
                with[k] = flag ? (Object) (draw(2) == 0) : (Object) (draw(3) == 0 ? POOL[draw(POOL.length)] : draw(11));
            }
            try {
                m.invoke(x, with);
            } catch (InvocationTargetException e) {
                boolean due = m.getName().equals("row") && e.getCause() instanceof NoSuchElementException;
                Checks.yes(m.getName() + " threw " + e.getCause(), due);
            }
        }
    }
}
