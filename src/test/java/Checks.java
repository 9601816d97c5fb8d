import java.lang.reflect.InvocationTargetException;
import java.lang.reflect.Method;
import java.util.ArrayList;
import java.util.Comparator;
import java.util.List;

/** What the tests of the promises share: running tests, comparing answers, making towns, feeding texts. */
final class Checks {
    static final long NO = Long.MIN_VALUE;
    private static int wrong;
    private static int checked;
    private static int tests;
    /** The test that runs, as it is named in front of what it finds. */
    private static String test = "";

    /** A call of an object. */
    interface Call {
        long on(MiddleThree x);
    }

    private Checks() { }

    // ---- running

    /** The tests of a class: its methods named p, a promise's number as two digits, _ and what they look at. */
    static List<Method> testsOf(Class<?> type) {
        List<Method> found = new ArrayList<>();
        for (Method method : type.getDeclaredMethods()) {
            if (method.getName().matches("p[0-9][0-9]_.+") && method.getParameterCount() == 0) {
                found.add(method);
            }
        }
        found.sort(Comparator.comparing(Method::getName));
        return found;
    }

    static int promiseOf(Method method) {
        return Integer.parseInt(method.getName().substring(1, 3));
    }

    static void run(Class<?> type) {
        for (Method method : testsOf(type)) {
            test = "promise " + promiseOf(method) + ", " + method.getName().substring(4) + ": ";
            int before = checked;
            tests++;
            try {
                method.setAccessible(true);
                method.invoke(null);
                due("answers looked at, at least one", Math.min(1, checked - before), 1);
            } catch (InvocationTargetException thrown) {
                wrong++;
                System.out.println(test + "threw " + thrown.getCause());
            } catch (IllegalAccessException closed) {
                wrong++;
                System.out.println(test + "can't be run");
            }
        }
    }

    static void finish() {
        System.out.println(tests + " tests, " + checked + " answers looked at, " + wrong + " wrong");
        if (wrong != 0 || tests == 0) {
            System.exit(1);
        }
    }

    // ---- comparing

    static void due(String call, long got, long want) {
        checked++;
        if (got != want) {
            wrong++;
            System.out.println(test + call + " answered " + got + ", due is " + want);
        }
    }

    static void same(String what, String got, String want) {
        checked++;
        if (!got.equals(want)) {
            wrong++;
            System.out.println(test + what + ": it is " + got + ", due is " + want);
        }
    }

    static void earned(String when, MiddleThree x, int... want) {
        for (int h = 0; h < want.length; h++) {
            due(when + ": house " + h + " earns", x.of(h, 2), want[h]);
        }
    }

    static void nexts(String when, MiddleThree x, int... want) {
        for (int h = 0; h < want.length; h++) {
            due(when + ": next of house " + h, x.of(h, 4), want[h]);
        }
    }

    static void traced(String when, MiddleThree x, int... want) {
        due(when + ": bodies", x.count(5), want.length);
        for (int i = 0; i < want.length && i < 20; i++) {
            due(when + ": body " + i, x.trace(i), want[i]);
        }
        due(when + ": no body behind", x.trace(want.length), -1);
    }

    // ---- towns, texts

    /** Houses by three numbers each: kind, v, what it earns. */
    static MiddleThree town(int... numbers) {
        MiddleThree x = new MiddleThree();
        for (int i = 0; i + 2 < numbers.length; i += 3) {
            due("house", x.house(numbers[i], numbers[i + 1], numbers[i + 2]), i / 3);
        }
        return x;
    }

    /** Houses of the plain kind by what they earn. */
    static MiddleThree plain(int... earned) {
        MiddleThree x = new MiddleThree();
        for (int n : earned) {
            x.house(0, 0, n);
        }
        return x;
    }

    static void feed(MiddleThree x, String text) {
        for (int i = 0; i < text.length(); i++) {
            x.feed(text.charAt(i));
        }
    }

    static int street(MiddleThree x, String text) {
        feed(x, text);
        return x.street();
    }

    static void years(MiddleThree x, int years) {
        for (int i = 0; i < years; i++) {
            x.year();
        }
    }

    static void row(MiddleThree x, int house, int... row) {
        for (int part = 0; part < row.length; part++) {
            x.row(house, part, row[part]);
        }
    }

    // ---- whether a call changes anything

    /** What can be asked for without changing anything, as a text: 112 calls. */
    static String state(MiddleThree x) {
        StringBuilder state = new StringBuilder();
        for (int what = 0; what <= 5; what++) {
            state.append(x.count(what)).append(' ');
        }
        for (int what = 0; what <= 2; what++) {
            state.append(x.told(what)).append(' ');
        }
        for (int h = 0; h <= 6; h++) {
            for (int what = 0; what <= 4; what++) {
                state.append(x.of(h, what)).append(' ');
            }
            // four years show the whole row of a told one
            for (int n = 1; n <= 4; n++) {
                state.append(x.at(n, h)).append(' ');
            }
        }
        for (int i = 0; i <= 12; i++) {
            state.append(x.trace(i)).append(' ');
        }
        state.append(x.lied(0)).append(' ').append(x.lied(1)).append(' ').append(x.looked());
        for (int tape = 0; tape <= 5; tape++) {
            state.append(' ').append(x.judge(tape, 0)).append(' ').append(x.read(tape, 0));
            state.append(' ').append(x.read(tape, 1)).append(' ').append(x.read(tape, 2));
        }
        return state.toString();
    }

    /** Something of everything, and the image of another state: some 50 calls. */
    static MiddleThree rich() {
        MiddleThree x = new MiddleThree();
        x.house(0, 3, 50);
        x.house(6, 1, 20);
        x.see(0, 50);
        x.image();
        x.house(5, 2, 70);
        x.house(4, 4, 35);
        row(x, 1, 3, 0, 2, 1);
        street(x, "ring;add 3 h=1");
        years(x, 2);
        x.see(-1, 0);
        x.see(2, 50);
        x.see(0, 46);
        x.book(x.at(1, 0));
        x.book(-2);
        x.book(x.at(3, 0));
        x.act(1, 2, 7);
        x.tape(0, 1, 2);
        x.item(0, 0, x.of(0, 2));
        x.item(0, 1, x.of(1, 2));
        x.tape(1, 0, 3);
        x.item(1, 1, -5);
        x.tape(2, 1, 3);
        x.item(2, 2, 9);
        feed(x, "ro");
        return x;
    }

    /** All that can be full is: houses, streets, the text, what was seen, the book: some 160 calls. */
    static MiddleThree full() {
        MiddleThree x = new MiddleThree();
        for (int h = 0; h < 7; h++) {
            x.house(h, h, 10 * h + 5);
        }
        for (int s = 0; s < 6; s++) {
            street(x, s == 5 ? "ring" : "row");
        }
        feed(x, "add 1 h=1;".repeat(10));
        for (int i = 0; i < 8; i++) {
            x.see(0, 5);
        }
        for (int i = 0; i < 12; i++) {
            x.book(-2);
        }
        x.act(6, 2, 7);
        return x;
    }

    /** A refusal on a rich object: its answer, and that it changes nothing, not the image nor the text either. */
    static void refused(String name, Call call, long due) {
        MiddleThree x = rich();
        String before = state(x);
        due(name, call.on(x), due);
        same(name + " changes nothing", state(x), before);
        x.undo();
        MiddleThree other = rich();
        other.undo();
        same(name + " changes nothing of the image", state(x), state(other));
        x.feed('w');
        due(name + ": the text is row", x.street(), 1);
    }

    /** A refusal on a full object: its answer, and that it changes nothing. */
    static void refusedFull(String name, Call call, long due) {
        MiddleThree x = full();
        String before = state(x);
        due(name, call.on(x), due);
        same(name + " changes nothing", state(x), before);
        due(name + ": the text is full", x.feed('x'), -4);
    }

    /** Something that is asked of a rich object changes nothing. */
    static void asked(String name, Call call) {
        MiddleThree x = rich();
        long first = call.on(x);
        refused(name, call, first);
        due(name + ", asked again", call.on(x), first);
    }
}
