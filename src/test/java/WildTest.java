import java.lang.reflect.InvocationTargetException;
import java.lang.reflect.Method;
import java.lang.reflect.Modifier;
import java.util.ArrayList;
import java.util.Comparator;
import java.util.List;
import java.util.NoSuchElementException;
import java.util.Random;

/** Any calls with any numbers on any bytes: nothing is ever thrown but man()'s NoSuchElementException. */
public final class WildTest {
    private static final int[] NUMBERS = {Integer.MIN_VALUE, -1000, -2, -1, 0, 0, 0, 1, 1, 1, 2, 3, 5, 6, 7, 8, 9, 20, 30, 31,
        60, 61, 250, 251, 400, 900, 940, 999, Integer.MAX_VALUE};
    private static final String[] PIECES = {"load 40;", "good ", "stock ", "wants ", "eats ", "makes ", "man ", "misses ",
        "hoards ", "bares ", "wastes ", " dies;", "day 9;", " or ", " and ", "not ", "lacked 1", "near < 9", "(", ")", ";",
        " a", " b", " c", " 0", " 1", " 9", "\n", "good a;", "good b;", "man c 0;", "man d 1;", "stock a 0 99;",
        "wants a 1 20;", "misses c d 0;", "eats b 1 2;", "makes b 0 3;", "c dies;", "hoards a 0 5;", "made 0"};

    private WildTest() {
    }

    private static List<Method> faceMethods() {
        List<Method> methods = new ArrayList<>();
        for (Method method : LackFerry.class.getDeclaredMethods()) {
            if (Modifier.isPublic(method.getModifiers())) {
                methods.add(method);
            }
        }
        methods.sort(Comparator.comparing(Method::getName));
        return methods;
    }

    private static String wildText(Random random) {
        StringBuilder text = new StringBuilder();
        for (int k = random.nextInt(40); k > 0; k--) {
            text.append(random.nextInt(40) == 0 ? "" + (char) random.nextInt(256) : PIECES[random.nextInt(PIECES.length)]);
        }
        return text.length() > 940 ? text.substring(0, 940) : text.toString();
    }

    private static int wildNumber(Random random) {
        return random.nextInt(20) == 0 ? random.nextInt() : NUMBERS[random.nextInt(NUMBERS.length)];
    }

    private static boolean isDue(Method method, Throwable thrown) {
        return method.getName().equals("man") && thrown.getClass() == NoSuchElementException.class;
    }

    public static void main(String[] args) throws IllegalAccessException {
        Checks checks = new Checks();
        List<Method> methods = faceMethods();
        for (int seed = 0; seed < 400; seed++) {
            Random random = new Random(seed);
            LackFerry x = new LackFerry();
            if (seed % 4 > 0) {
                Checks.tell(x, "load 7;good a;good b;man c 0;man d 1;stock a 0 99;wants a 1 20;misses c d 0;misses d c 2;").strait();
            }
            for (int k = 0; k < 400; k++) {
                Method method = methods.get(random.nextInt(methods.size()));
                Object[] given = new Object[method.getParameterCount()];
                for (int i = 0; i < given.length; i++) {
                    given[i] = wildNumber(random);
                }
                if (random.nextInt(10) == 0) {
                    Checks.tell(x, wildText(random));
                }
                try {
                    method.invoke(x, given);
                } catch (InvocationTargetException e) {
                    checks.due("seed " + seed + ": " + method.getName() + " throws " + e.getCause(), isDue(method, e.getCause()), true);
                }
            }
        }
        checks.end();
    }
}
