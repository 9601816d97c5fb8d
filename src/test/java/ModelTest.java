import java.util.ArrayList;
import java.util.List;
import java.util.Random;

/** Runs of random calls on MiddleThree and on Model, which must answer alike; then many texts alone. */
public final class ModelTest {
    private static final int RUNS = 400;
    private static final int CALLS = 512;
    private static final int TEXTS = 20000;

    private final Random random;
    private final MiddleThree x = new MiddleThree();
    private final Model model = new Model();
    private final List<String> calls = new ArrayList<>();
    private String failure;

    private ModelTest(long seed) {
        random = new Random(seed);
    }

    public static void main(String[] args) {
        int wrong = 0;
        for (long seed = 1; seed <= RUNS && wrong < 5; seed++) {
            ModelTest test = new ModelTest(seed);
            test.run();
            if (test.failure != null) {
                wrong++;
                System.out.println("seed " + seed + ": " + test.failure);
            }
        }
        Random random = new Random(0);
        for (int i = 0; i < TEXTS && wrong < 5; i++) {
            String text = spoiled(random, text(random));
            int want = Model.fault(text);
            int got = faultOf(text);
            if (got != want) {
                wrong++;
                System.out.println("\"" + text + "\" has its fault at " + got + ", due is " + want);
            }
        }
        System.out.println(wrong == 0 ? "both answered alike" : "answers differ");
        if (wrong != 0) {
            System.exit(1);
        }
    }

    private static int faultOf(String text) {
        MiddleThree x = new MiddleThree();
        for (int i = 0; i < text.length(); i++) {
            x.feed(text.charAt(i));
        }
        int answer = x.street();
        return answer >= 0 ? -1 : -10 - answer;
    }

    private void run() {
        // a run has its habits: how often arguments are wrong, how many houses it begins with
        int wild = random.nextInt(4) == 0 ? 5 : 25;
        int first = random.nextInt(9);
        for (int h = 0; h < first; h++) {
            house(5);
        }
        if (random.nextBoolean()) {
            feedStreet();
        }
        while (calls.size() < CALLS && failure == null) {
            anyCall(wild);
        }
    }

    private void same(String call, long got, long want) {
        calls.add(call);
        if (got != want && failure == null) {
            int from = Math.max(0, calls.size() - 400);
            failure = call + " answered " + got + ", the model " + want + ", behind " + calls.subList(from, calls.size());
        }
    }

    /** Mostly from .. to, now and then a little beyond either, seldom far beyond. */
    private int some(int from, int to, int wild) {
        if (random.nextInt(wild) == 0) {
            int[] far = {from - 1, to + 1, from - 2, to + 2, Integer.MIN_VALUE, Integer.MAX_VALUE};
            return far[random.nextInt(far.length)];
        }
        return from + random.nextInt(to - from + 1);
    }

    private int someHouse(int wild) {
        return some(0, Math.max(0, model.count(0) - 1), wild);
    }

    private void house(int wild) {
        int kind = some(0, 6, wild * 4);
        int v = some(0, 9, wild * 4);
        int earns = random.nextInt(3) == 0 ? some(0, 9, wild * 4) : some(0, 99, wild * 4);
        same("house(" + kind + ", " + v + ", " + earns + ")", x.house(kind, v, earns), model.house(kind, v, earns));
    }

    private void feedStreet() {
        String text = random.nextInt(3) == 0 ? spoiled(random, text(random)) : text(random);
        for (int i = 0; i < text.length() && calls.size() < CALLS; i++) {
            int sign = text.charAt(i);
            same("feed(" + sign + ")", x.feed(sign), model.feed(sign));
        }
        same("street()", x.street(), model.street());
    }

    private void anyCall(int wild) {
        int what = random.nextInt(1000);
        if (what < 12) {
            house(wild);
        } else if (what < 16) {
            feedStreet();
        } else if (what < 300) {
            askTown(wild);
        } else if (what < 560) {
            askRuns(wild);
        } else if (what < 740) {
            askNotes(wild);
        } else {
            askRest(wild);
        }
    }

    private void askTown(int wild) {
        int h = someHouse(wild);
        int n = random.nextInt(3) == 0 ? some(0, 9, wild) : some(0, 99, wild);
        switch (random.nextInt(9)) {
            case 0 -> {
                int what = some(0, 4, wild);
                same("of(" + h + ", " + what + ")", x.of(h, what), model.of(h, what));
            }
            case 1 -> same("earn(" + h + ", " + n + ")", x.earn(h, n), model.earn(h, n));
            case 2, 3 -> {
                int part = some(0, 3, wild);
                int to = some(0, 4, wild);
                same("row(" + h + ", " + part + ", " + to + ")", x.row(h, part, to), model.row(h, part, to));
            }
            case 4 -> {
                int what = some(0, 2, wild);
                same("told(" + what + ")", x.told(what), model.told(what));
            }
            case 5 -> {
                int sign = some(0, 127, wild);
                if (random.nextInt(8) == 0) {
                    same("feed(" + sign + ")", x.feed(sign), model.feed(sign));
                }
            }
            case 6 -> {
                if (random.nextInt(20) == 0) {
                    same("image()", x.image(), model.image());
                } else if (random.nextInt(10) == 0) {
                    same("undo()", x.undo(), model.undo());
                }
            }
            default -> same("year()", x.year(), model.year());
        }
    }

    private void askRuns(int wild) {
        int h = someHouse(wild);
        int n = some(0, 99, wild);
        switch (random.nextInt(10)) {
            case 0 -> {
                int years = some(0, 60, wild);
                int what = random.nextInt(3) == 0 ? 10 : random.nextInt(4) == 0 ? some(0, 10, wild) : h;
                same("at(" + years + ", " + what + ")", x.at(years, what), model.at(years, what));
            }
            case 1 -> {
                if (random.nextInt(4) == 0) {
                    same("stays()", x.stays(), model.stays());
                }
            }
            case 2 -> same("swings()", x.swings(), model.swings());
            case 3 -> {
                int what = some(0, 1, wild);
                same("gift(" + h + ", " + n + ", " + what + ")", x.gift(h, n, what), model.gift(h, n, what));
            }
            case 4 -> {
                if (random.nextInt(4) == 0) {
                    same("best(" + n + ")", x.best(n), model.best(n));
                }
            }
            case 5 -> {
                if (random.nextInt(4) == 0) {
                    same("lots()", x.lots(), model.lots());
                }
            }
            case 6 -> {
                int kind = some(0, 6, wild);
                int v = some(0, 9, wild);
                int what = some(0, 1, wild);
                same("build(" + kind + ", " + v + ", " + n + ", " + what + ")", x.build(kind, v, n, what),
                    model.build(kind, v, n, what));
            }
            case 7 -> {
                int what = some(0, 1, wild);
                same("down(" + what + ")", x.down(what), model.down(what));
            }
            case 8 -> {
                int part = some(0, 1, wild);
                same("odds(" + h + ", " + n + ", " + part + ")", x.odds(h, n, part), model.odds(h, n, part));
            }
            default -> {
                int years = some(1, 60, wild);
                int part = some(0, 1, wild);
                same("mean(" + years + ", " + part + ")", x.mean(years, part), model.mean(years, part));
            }
        }
    }

    private void askNotes(int wild) {
        int h = someHouse(wild);
        switch (random.nextInt(6)) {
            case 0 -> {
                int what = random.nextInt(3) == 0 ? -1 : h;
                same("before(" + what + ")", x.before(what), model.before(what));
            }
            case 1 -> {
                // mostly what will be so, or lied answers nothing but 0
                int house = random.nextInt(12) == 0 ? -1 : h;
                int n = random.nextInt(4) == 0 ? some(0, 99, wild) : Math.max(0, model.of(house, 4));
                same("see(" + house + ", " + n + ")", x.see(house, n), model.see(house, n));
            }
            case 2 -> {
                int what = some(0, 1, wild);
                same("lied(" + what + ")", x.lied(what), model.lied(what));
            }
            case 3 -> {
                int other = someHouse(wild);
                same("wed(" + h + ", " + other + ")", x.wed(h, other), model.wed(h, other));
            }
            case 4 -> {
                int years = model.count(3) + 1;
                int n = random.nextInt(10) == 0 ? -1 : random.nextInt(5) == 0 ? some(-2, 99, wild)
                    : random.nextInt(5) == 0 ? -2 : Math.max(0, model.at(years, 0));
                same("book(" + n + ")", x.book(n), model.book(n));
            }
            default -> same("looked()", x.looked(), model.looked());
        }
    }

    private void askRest(int wild) {
        int h = someHouse(wild);
        int tape = some(0, 5, wild);
        int i = random.nextInt(4) == 0 ? some(0, 60, wild) : some(0, 9, wild);
        switch (random.nextInt(11)) {
            case 0 -> same("judge(" + tape + ", " + i + ")", x.judge(tape, i), model.judge(tape, i));
            case 1 -> judgeTrue(tape, wild);
            case 2, 3 -> {
                int act = some(0, 2, wild);
                int with = random.nextBoolean() ? random.nextInt() : random.nextInt(20);
                same("act(" + h + ", " + act + ", " + with + ")", x.act(h, act, with), model.act(h, act, with));
            }
            case 4 -> same("trace(" + i + ")", x.trace(i), model.trace(i));
            case 5 -> {
                int k = some(0, 6, wild);
                same("taken(" + h + ", " + k + ")", x.taken(h, k), model.taken(h, k));
            }
            case 6 -> {
                int what = some(0, 5, wild);
                same("count(" + what + ")", x.count(what), model.count(what));
            }
            case 7 -> {
                int sort = random.nextBoolean() ? 1 : some(-1, 4, wild);
                int n = random.nextBoolean() ? some(0, 60, wild) : some(0, 12, wild);
                same("tape(" + tape + ", " + sort + ", " + n + ")", x.tape(tape, sort, n), model.tape(tape, sort, n));
            }
            case 8 -> {
                long v = random.nextBoolean() ? random.nextLong() : random.nextInt(200) - 50;
                same("item(" + tape + ", " + i + ", " + v + ")", x.item(tape, i, v), model.item(tape, i, v));
            }
            case 9 -> same("read(" + tape + ", " + i + ")", x.read(tape, i), model.read(tape, i));
            default -> {
                int other = some(0, 5, wild);
                int j = some(0, 9, wild);
                int n = some(0, 9, wild);
                same("shift(" + tape + ", " + i + ", " + other + ", " + j + ", " + n + ")",
                    x.shift(tape, i, other, j, n), model.shift(tape, i, other, j, n));
            }
        }
    }

    /** Writes what is earned on a tape of shorts, nearly, and has it judged. */
    private void judgeTrue(int tape, int wild) {
        int n = some(0, 12, wild);
        int from = some(0, 4, wild);
        same("tape(" + tape + ", 1, " + n + ")", x.tape(tape, 1, n), model.tape(tape, 1, n));
        int size = random.nextInt(8);
        for (int h = 0; h < size; h++) {
            long v = random.nextInt(15) == 0 ? 65536 : Math.max(0, model.of(h, 2));
            same("item(" + tape + ", " + (from + h) + ", " + v + ")", x.item(tape, from + h, v),
                model.item(tape, from + h, v));
        }
        same("judge(" + tape + ", " + from + ")", x.judge(tape, from), model.judge(tape, from));
    }

    // ---- texts of streets

    private static String text(Random random) {
        StringBuilder text = new StringBuilder();
        int clauses = random.nextInt(4) == 0 ? 1 + random.nextInt(12) : 1 + random.nextInt(5);
        for (int c = 0; c < clauses; c++) {
            if (c > 0) {
                text.append(';');
            }
            int sort = random.nextInt(clauses > 6 ? 10 : 6);
            if (sort < 4) {
                int most = random.nextInt(3) == 0 ? 100 : 12;
                text.append(sort % 2 == 0 ? "add " : "tax ").append(random.nextInt(most)).append(' ');
                either(random, text, random.nextInt(12) == 0 ? 5 : 4, random.nextInt(3));
            } else {
                text.append(random.nextBoolean() ? "ring" : "row");
            }
        }
        return text.substring(0, Math.min(text.length(), random.nextInt(3) == 0 ? 100 : 60));
    }

    private static void either(Random random, StringBuilder text, int deep, int joins) {
        factor(random, text, deep);
        for (int i = 0; i < joins; i++) {
            text.append(random.nextBoolean() ? '|' : '&');
            factor(random, text, deep);
        }
    }

    private static void factor(Random random, StringBuilder text, int deep) {
        int sort = random.nextInt(deep > 0 ? 5 : 2);
        if (sort == 2) {
            text.append('!');
            factor(random, text, deep - 1);
        } else if (sort >= 3) {
            text.append('(');
            either(random, text, deep - 1, random.nextInt(2));
            text.append(')');
        } else {
            text.append("hkveby".charAt(random.nextInt(6))).append("<=>".charAt(random.nextInt(3)));
            text.append(random.nextInt(5) == 0 ? "0" : "").append(random.nextInt(random.nextInt(5) == 0 ? 100 : 10));
        }
        if (text.length() > 300) {
            text.setLength(300);
        }
    }

    private static String spoiled(Random random, String text) {
        String signs = "adtxringow hkveby<=>!()&|;0123456789\u0000\u007fz";
        StringBuilder spoiled = new StringBuilder(text);
        for (int i = random.nextInt(3); i > 0 && spoiled.length() > 0; i--) {
            int place = random.nextInt(spoiled.length());
            char sign = signs.charAt(random.nextInt(signs.length()));
            switch (random.nextInt(4)) {
                case 0 -> spoiled.setCharAt(place, sign);
                case 1 -> spoiled.insert(place, sign);
                case 2 -> spoiled.deleteCharAt(place);
                default -> spoiled.setLength(place);
            }
        }
        return spoiled.substring(0, Math.min(spoiled.length(), 100));
    }
}
