/** What the tests of the promises share: comparing answers, making towns, feeding texts. */
final class Checks {
    static final long NO = Long.MIN_VALUE;
    private static int wrong;
    private static int checked;

    private Checks() { }

    static void due(String call, long got, long want) {
        checked++;
        if (got != want) {
            wrong++;
            System.out.println(call + " answered " + got + ", due is " + want);
        }
    }

    /** Houses by three numbers each: kind, v, what it earns. */
    static MiddleThree town(int... numbers) {
        MiddleThree x = new MiddleThree();
        for (int i = 0; i + 2 < numbers.length; i += 3) {
            due("house", x.house(numbers[i], numbers[i + 1], numbers[i + 2]), i / 3);
        }
        return x;
    }

    /** Houses of the plain kind by what they earn. */
    static MiddleThree plain(int... earned) {
        MiddleThree x = new MiddleThree();
        for (int n : earned) {
            x.house(0, 0, n);
        }
        return x;
    }

    static void feed(MiddleThree x, String text) {
        for (int i = 0; i < text.length(); i++) {
            x.feed(text.charAt(i));
        }
    }

    static int street(MiddleThree x, String text) {
        feed(x, text);
        return x.street();
    }

    static void years(MiddleThree x, int years) {
        for (int i = 0; i < years; i++) {
            x.year();
        }
    }

    static void earned(String when, MiddleThree x, int... want) {
        for (int h = 0; h < want.length; h++) {
            due(when + ": house " + h + " earns", x.of(h, 2), want[h]);
        }
    }

    static void nexts(String when, MiddleThree x, int... want) {
        for (int h = 0; h < want.length; h++) {
            due(when + ": next of house " + h, x.of(h, 4), want[h]);
        }
    }

    static void traced(String when, MiddleThree x, int... want) {
        due(when + ": bodies", x.count(5), want.length);
        for (int i = 0; i < want.length && i < 20; i++) {
            due(when + ": body " + i, x.trace(i), want[i]);
        }
        due(when + ": no body behind", x.trace(want.length), -1);
    }

    static void finish() {
        System.out.println(checked + " answers looked at, " + wrong + " wrong");
        if (wrong != 0) {
            System.exit(1);
        }
    }
}
