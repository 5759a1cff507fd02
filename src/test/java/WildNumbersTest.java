import java.lang.reflect.Method;
import java.util.Arrays;
import java.util.Comparator;

/**
 * Every call with every mixture of numbers that lie at, beside and far beyond all bounds, in several
 * states, held against the Model: none throws, and each answers what is due.
 */
public final class WildNumbersTest {
    private static final Checks T = new Checks("WildNumbersTest");
    private static final int MOST_CALLS = 512;
    private static final int MIN = Integer.MIN_VALUE;
    private static final int MAX = Integer.MAX_VALUE;
    private static final int[] MANY = {MIN, MIN + 1, -2, -1, 0, 1, 2, 3, 4, 5, 6, 7, 8, 9, 10, 11, 13, 14, 22, 23, 24, 25,
        39, 40, 41, 127, 128, 199, 200, 255, 256, 319, 320, 321, 32768, 65536, MAX - 1, MAX};
    private static final int[] SOME = {MIN, -1, 0, 1, 2, 4, 13, 24, 199, 200, MAX};
    private static final int[] FEW = {MIN, -1, 0, 1, 2, 4, 13, 38, MAX};
    private static final String[] STATES = {
        "",
        "point 7 9;",
        "point0 0;point1 0;point0 1;ring2 1 0;",
        "point0 0;point90 0;point90 90;point0 90;point40 9;point20 70;ring0 4 1 2 3;ring0 4 1;pin2;",
        Samples.sixSquares(),
    };

    private SharedBorders real;
    private Model model;
    private int calls;
    private final String state;

    private WildNumbersTest(String state) {
        this.state = state;
        begin();
    }

    public static void main(String[] args) throws ReflectiveOperationException {
        Method[] methods = SharedBorders.class.getDeclaredMethods();
        Arrays.sort(methods, Comparator.comparing(Method::getName));
        for (String state : STATES) {
            WildNumbersTest run = new WildNumbersTest(state);
            for (Method m : methods) {
                int arity = m.getParameterCount();
                if (java.lang.reflect.Modifier.isPublic(m.getModifiers()) && arity > 0) {
                    run.mixtures(m, arity == 4 ? FEW : arity == 3 ? SOME : MANY);
                }
            }
        }
        T.finish();
    }

    private void begin() {
        real = new SharedBorders();
        model = new Model();
        for (int i = 0; i < state.length(); i++) {
            real.feed(state.charAt(i));
            model.feed(state.charAt(i));
        }
        T.due("text() of " + state, real.text(), model.text());
        real.store(1);
        model.store(1);
        for (int k = 0; k < 3; k++) {
            real.sheet(k, k, 40 - k);
            model.sheet(k, k, 40 - k);
        }
        calls = state.length() + 5;
    }

    private void mixtures(Method m, int[] numbers) throws ReflectiveOperationException {
        int arity = m.getParameterCount();
        Method due = Model.class.getDeclaredMethod(m.getName(), m.getParameterTypes());
        int all = 1;
        for (int i = 0; i < arity; i++) {
            all *= numbers.length;
        }
        Object[] given = new Object[arity];
        for (int n = 0; n < all; n++) {
            int rest = n;
            for (int i = 0; i < arity; i++) {
                given[i] = numbers[rest % numbers.length];
                rest /= numbers.length;
            }
            if (calls >= MOST_CALLS) {
                begin();
            }
            calls++;
            String call = m.getName() + Arrays.toString(given);
            T.due(state + " " + call, (Integer) m.invoke(real, given), (Integer) due.invoke(model, given));
        }
    }
}
