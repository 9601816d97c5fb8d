import java.lang.reflect.InvocationTargetException;
import java.lang.reflect.Method;
import java.util.ArrayList;
import java.util.List;

/**
 * Every call of promises 2 to 36 with all that lies at bounds, just beyond them, and at the ends of what a number
 * can be, in four states: MiddleThree and Model must answer alike, and nothing may be thrown.
 */
public final class ExtremesTest {
    private static final String[] CALLS = {"house", "of", "earn", "row", "feed", "street", "told", "year", "at",
        "stays", "swings", "gift", "best", "lots", "build", "down", "before", "see", "lied", "wed", "odds", "mean",
        "book", "looked", "judge", "image", "undo", "act", "trace", "taken", "count", "tape", "item", "read", "shift"};
    private static final int FIRST_PROMISE = 2;
    private static final int STATES = 4;
    /** So many calls behind those that make a state. */
    private static final int CALLS_OF_ONE = 250;

    private static int wrong;
    private static int compared;

    private MiddleThree x;
    private Model model;
    private int called;

    public static void main(String[] args) throws ReflectiveOperationException {
        for (int c = 0; c < CALLS.length; c++) {
            for (int state = 0; state < STATES; state++) {
                new ExtremesTest().compare(FIRST_PROMISE + c, state);
            }
        }
        System.out.println(compared + " answers compared, " + wrong + " wrong");
        if (wrong != 0) {
            System.exit(1);
        }
    }

    private void compare(int promise, int state) throws ReflectiveOperationException {
        Method call = method(MiddleThree.class, CALLS[promise - FIRST_PROMISE]);
        Method due = method(Model.class, CALLS[promise - FIRST_PROMISE]);
        called = CALLS_OF_ONE;
        for (Object[] arguments : arguments(call.getParameterTypes())) {
            if (called >= CALLS_OF_ONE) {
                begin(state);
            }
            called++;
            compared++;
            String told = "promise " + promise + ", state " + state + ": " + call.getName() + List.of(arguments);
            try {
                long got = ((Number) call.invoke(x, arguments)).longValue();
                long want = ((Number) due.invoke(model, arguments)).longValue();
                if (got != want) {
                    wrong++;
                    System.out.println(told + " answered " + got + ", the model " + want);
                }
            } catch (InvocationTargetException thrown) {
                wrong++;
                System.out.println(told + " threw " + thrown.getCause());
            }
        }
    }

    private static Method method(Class<?> type, String name) {
        for (Method method : type.getDeclaredMethods()) {
            if (method.getName().equals(name)) {
                method.setAccessible(true);
                return method;
            }
        }
        throw new IllegalStateException(name);
    }

    private static Object[] numbers(Class<?> type, int parameters) {
        if (type == long.class) {
            return new Object[] {Long.MIN_VALUE, -129L, -1L, 0L, 1L, 128L, 32768L, 2147483648L, Long.MAX_VALUE};
        }
        if (parameters == 1) {
            Object[] all = new Object[160];
            for (int i = 0; i < 158; i++) {
                all[i] = i - 20;
            }
            all[158] = Integer.MIN_VALUE;
            all[159] = Integer.MAX_VALUE;
            return all;
        }
        if (parameters == 2) {
            return new Object[] {Integer.MIN_VALUE, -2, -1, 0, 1, 2, 3, 4, 5, 6, 7, 9, 10, 11, 59, 60, 61, 98, 99, 100,
                Integer.MAX_VALUE};
        }
        if (parameters == 3) {
            return new Object[] {Integer.MIN_VALUE, -2, -1, 0, 1, 2, 3, 4, 5, 6, 7, 9, 10, 60, 61, 99, 100,
                Integer.MAX_VALUE};
        }
        return new Object[] {Integer.MIN_VALUE, -1, 0, 1, 2, 3, 7, 10, Integer.MAX_VALUE};
    }

    private static List<Object[]> arguments(Class<?>[] types) {
        List<Object[]> all = new ArrayList<>();
        all.add(new Object[types.length]);
        for (int place = 0; place < types.length; place++) {
            List<Object[]> more = new ArrayList<>();
            for (Object[] begun : all) {
                for (Object number : numbers(types[place], types.length)) {
                    Object[] longer = begun.clone();
                    longer[place] = number;
                    more.add(longer);
                }
            }
            all = more;
        }
        return all;
    }

    // ---- the states: nothing; three houses; four and tapes of unlike sorts; seven and all that can be full

    private void begin(int state) {
        x = new MiddleThree();
        model = new Model();
        called = 0;
        int houses = new int[] {0, 3, 4, 7}[state];
        for (int h = 0; h < houses; h++) {
            int kind = (h * 5 + state) % 7;
            x.house(kind, h, 13 * h + 7);
            model.house(kind, h, 13 * h + 7);
        }
        if (state >= 2) {
            feed("ring;add 3 h=1;tax 2 e>5");
            x.street();
            model.street();
            x.year();
            model.year();
            tapes();
        }
        if (state == 2) {
            x.image();
            model.image();
        }
        if (state == 3) {
            full();
        }
    }

    private void feed(String text) {
        for (char sign : text.toCharArray()) {
            x.feed(sign);
            model.feed(sign);
        }
    }

    private void tapes() {
        for (int tape = 0; tape < 5; tape++) {
            int sort = tape == 4 ? 1 : tape;
            x.tape(tape, sort, 3 + tape);
            model.tape(tape, sort, 3 + tape);
            x.item(tape, 1, 7);
            model.item(tape, 1, 7);
        }
    }

    private void full() {
        for (int i = 0; i < 8; i++) {
            x.see(i % 7, 7);
            model.see(i % 7, 7);
        }
        for (int i = 0; i < 12; i++) {
            x.book(-2);
            model.book(-2);
        }
        for (int s = 1; s < 6; s++) {
            feed("row");
            x.street();
            model.street();
        }
        feed("add 1 h=1;".repeat(10));
        x.act(6, 2, 5);
        model.act(6, 2, 5);
    }
}
