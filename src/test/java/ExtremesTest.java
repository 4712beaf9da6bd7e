import java.lang.reflect.Method;
import java.lang.reflect.Modifier;
import java.util.ArrayList;
import java.util.Arrays;
import java.util.Comparator;
import java.util.List;

/**
 * Every method with all edges of its arguments taken together, in an empty town and in a full one,
 * beside the model: each promise's answers at and beyond its limits, and no call that throws.
 */
public final class ExtremesTest {
    private static final int MIN = Integer.MIN_VALUE;
    private static final int MAX = Integer.MAX_VALUE;
    private static final int[] MANY = {MIN, MIN + 1, -65, -10, -2, -1, 0, 1, 2, 3, 4, 5, 6, 7, 8, 9, 10, 12, 13, 15, 16,
        19, 20, 21, 39, 40, 41, 62, 63, 64, 79, 80, 81, 98, 99, 100, 9998, 9999, 10000, MAX - 1, MAX};
    private static final int[] FEWER = {MIN, -1, 0, 1, 2, 3, 4, 8, 16, 39, 40, 41, 64, 99, 100, 9999, 10000, MAX};
    private static final int[] FEW = {MIN, -1, 0, 1, 2, 3, 4, 40, MAX};
    private static final long[] LONGS = {Long.MIN_VALUE, -129, -1, 0, 127, 128, 65536, 1L << 32, Long.MAX_VALUE};
    // What a town to begin with takes, and these, stay under the 512 calls of an object.
    private static final int CALLS_OF_AN_OBJECT = 300;

    private CornerTax tax;
    private Model model;
    private int made;

    public static void main(String[] args) throws Exception {
        List<Method> methods = new ArrayList<>();
        for (Method m : CornerTax.class.getDeclaredMethods()) if (Modifier.isPublic(m.getModifiers())) methods.add(m);
        methods.sort(Comparator.comparing(Method::getName));
        Due.is("methods of the face", 35, methods.size());
        for (Method m : methods) {
            for (boolean full : new boolean[] {false, true}) new ExtremesTest().tryAll(m, full);
        }
        Due.finish();
    }

    private void tryAll(Method m, boolean full) throws Exception {
        Method theirs = Model.class.getMethod(m.getName(), m.getParameterTypes());
        made = CALLS_OF_AN_OBJECT;
        for (Object[] arguments : rows(m.getParameterTypes())) {
            if (made >= CALLS_OF_AN_OBJECT) begin(full);
            made++;
            long want = ((Number) theirs.invoke(model, arguments)).longValue();
            long got = ((Number) m.invoke(tax, arguments)).longValue();
            Due.is(m.getName() + Arrays.toString(arguments) + (full ? " of a full town" : " of an empty town"), want, got);
        }
        for (int k = -1; k < 7; k++) Due.is(m.getName() + ": status " + k, model.status(k), tax.status(k));
    }

    /** All edges of all arguments, each with each. */
    private static List<Object[]> rows(Class<?>[] types) {
        List<Object[]> rows = new ArrayList<>();
        rows.add(new Object[0]);
        for (Class<?> type : types) {
            List<Object[]> longer = new ArrayList<>();
            for (Object[] row : rows) {
                for (Object edge : edges(type, types.length)) {
                    Object[] next = Arrays.copyOf(row, row.length + 1);
                    next[row.length] = edge;
                    longer.add(next);
                }
            }
            rows = longer;
        }
        return rows;
    }

    private static List<Object> edges(Class<?> type, int arguments) {
        List<Object> edges = new ArrayList<>();
        if (type == long.class) {
            for (long v : LONGS) edges.add(v);
        } else {
            for (int v : arguments <= 2 ? MANY : arguments == 3 ? FEWER : FEW) edges.add(v);
        }
        return edges;
    }

    private void begin(boolean full) {
        tax = new CornerTax();
        model = new Model();
        made = 0;
        if (!full) return;
        tell("street 56 to 63;shed 20;tree 22 24;law 5 on 1 3 5;outward 7 on 17 18 26;shared 9 on 27;rich 0 600");
        tax.image();
        model.image();
        tell("dear 11 on 28 29;old 13 on 37;free 99 on 38;rich 1 300;rich 3 9999");
        for (int s = 0; s < 3; s++) {
            int bits = new int[] {8, 16, 64}[s];
            int n = new int[] {40, 3, 0}[s];
            Due.is("sheet", model.sheet(s, bits, n), tax.sheet(s, bits, n));
        }
        feed("tree 9;x");
    }

    private void tell(String text) {
        feed(text);
        Due.is("a right text", model.town(), tax.town());
    }

    private void feed(String text) {
        Due.feed(tax, text);
        for (int i = 0; i < text.length(); i++) model.feed(text.charAt(i), 1);
    }
}
