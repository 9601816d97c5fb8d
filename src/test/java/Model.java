import java.util.ArrayList;
import java.util.Arrays;
import java.util.Collections;
import java.util.List;
import java.util.TreeSet;
import java.util.function.IntUnaryOperator;
import java.util.regex.Matcher;
import java.util.regex.Pattern;

/**
 * The document once more, told in another way and without care for speed: houses as values, streets
 * as texts that are read anew for every house, faults by a regular expression, acts by the host's own
 * inheritance. ModelTest compares it with MiddleThree call by call.
 */
final class Model {
    static final long NO = Long.MIN_VALUE;

    record House(int kind, int v, int earns, List<Integer> row) {
        House earning(int n) {
            return new House(kind, v, n, row);
        }
    }

    record Seen(int house, int n) { }

    record Town(List<House> houses, int year, String street) {
        Town earning(int h, int n) {
            List<House> changed = new ArrayList<>(houses);
            changed.set(h, houses.get(h).earning(n));
            return new Town(changed, year, street);
        }

        Town given(int h, int n) {
            return earning(h, Math.min(99, houses.get(h).earns + n));
        }

        List<Integer> earned() {
            return houses.stream().map(House::earns).toList();
        }

        int all() {
            return houses.stream().mapToInt(House::earns).sum();
        }

        boolean ring() {
            if (street == null) {
                return false;
            }
            String shape = "row";
            for (String clause : street.split(";")) {
                shape = clause.length() == 3 || clause.length() == 4 ? clause : shape;
            }
            return shape.equals("ring");
        }

        List<Integer> said() {
            List<Integer> said = new ArrayList<>();
            for (House house : houses) {
                said.add(house.kind == 5 && year % 9 == house.v ? 0 : house.earns);
            }
            return said;
        }

        Town after(int years) {
            Town town = this;
            for (int i = 0; i < years; i++) {
                Town before = town;
                List<House> changed = new ArrayList<>();
                for (int h = 0; h < houses.size(); h++) {
                    changed.add(before.houses.get(h).earning(before.next(h, before.said())));
                }
                town = new Town(changed, before.year + 1, street);
            }
            return town;
        }

        /** The houses so many places away, on both sides, each once and never the house itself. */
        TreeSet<Integer> away(int h, int... places) {
            TreeSet<Integer> found = new TreeSet<>();
            int size = houses.size();
            for (int place : places) {
                for (int other : new int[] {h - place, h + place}) {
                    if (ring()) {
                        found.add(Math.floorMod(other, size));
                    } else if (other >= 0 && other < size) {
                        found.add(other);
                    }
                }
            }
            found.remove(h);
            return found;
        }

        int next(int h, List<Integer> said) {
            House house = houses.get(h);
            List<Integer> near = new ArrayList<>(List.of(house.earns));
            away(h, 1).forEach(other -> near.add(said.get(other)));
            Collections.sort(near);
            int plain = near.size() == 3 ? near.get(1) : house.earns;
            List<Integer> wide = new ArrayList<>(List.of(house.earns));
            away(h, 1, 2).forEach(other -> wide.add(said.get(other)));
            Collections.sort(wide);
            int next = switch (house.kind) {
                case 1 -> plain < 5 * house.v ? 5 * house.v : plain;
                case 2, 5 -> plain > house.earns ? house.earns : plain;
                case 3 -> wide.size() % 2 == 1 ? wide.get(wide.size() / 2) : wide.get(wide.size() / 2 - 1);
                case 4 -> {
                    int proud = plain < 5 * house.v ? 5 * house.v : plain;
                    yield Math.floorMod(year, house.v + 2) == 0 ? proud / 2 : proud;
                }
                case 6 -> {
                    int wanted = house.row.get(year % 4);
                    yield wanted < wide.size() ? wide.get(wanted) : wide.get(wide.size() - 1);
                }
                default -> plain;
            };
            next += adds(h);
            return next < 0 ? 0 : next > 99 ? 99 : next;
        }

        int adds(int h) {
            int all = 0;
            if (street != null) {
                for (String clause : street.split(";")) {
                    String[] parts = clause.split(" ");
                    if (parts.length == 3 && holds(parts[2], h)) {
                        all += (parts[0].equals("add") ? 1 : -1) * Integer.parseInt(parts[1]);
                    }
                }
            }
            return all;
        }

        boolean holds(String e, int h) {
            int bar = outside(e, '|');
            if (bar >= 0) {
                return holds(e.substring(0, bar), h) || holds(e.substring(bar + 1), h);
            }
            int and = outside(e, '&');
            if (and >= 0) {
                return holds(e.substring(0, and), h) && holds(e.substring(and + 1), h);
            }
            if (e.charAt(0) == '!') {
                return !holds(e.substring(1), h);
            }
            if (e.charAt(0) == '(') {
                return holds(e.substring(1, e.length() - 1), h);
            }
            House house = houses.get(h);
            long richer = houses.stream().filter(other -> other.earns > house.earns).count();
            long is = switch (e.charAt(0)) {
                case 'h' -> h;
                case 'k' -> house.kind;
                case 'v' -> house.v;
                case 'e' -> house.earns / 10;
                case 'b' -> richer;
                default -> year % 10;
            };
            int compared = Long.compare(is, Integer.parseInt(e.substring(2)));
            return Integer.signum(compared) == "<=>".indexOf(e.charAt(1)) - 1;
        }

        private static int outside(String e, char sign) {
            int open = 0;
            for (int i = 0; i < e.length(); i++) {
                open += e.charAt(i) == '(' ? 1 : e.charAt(i) == ')' ? -1 : 0;
                if (open == 0 && e.charAt(i) == sign) {
                    return i;
                }
            }
            return -1;
        }
    }

    record Image(Town town, List<Seen> seen, List<Integer> book) { }

    // ---- the acts, by inheritance

    static class Plain {
        final List<Integer> ran;
        final int i;
        final int v;

        Plain(List<Integer> ran, int i, int v) {
            this.ran = ran;
            this.i = i;
            this.v = v;
        }

        int earns(int x) {
            ran.add(10);
            return x + i;
        }

        int says(int x) {
            ran.add(11);
            return earns(x) - v;
        }

        int tells(int x) {
            ran.add(12);
            return says(x) * 2;
        }
    }

    static class Proud extends Plain {
        Proud(List<Integer> ran, int i, int v) {
            super(ran, i, v);
        }

        @Override int says(int x) {
            ran.add(20);
            return super.says(x) ^ 6;
        }
    }

    static class Meek extends Plain {
        Meek(List<Integer> ran, int i, int v) {
            super(ran, i, v);
        }

        @Override int earns(int x) {
            ran.add(30);
            return super.earns(x * 3);
        }
    }

    static class Wide extends Plain {
        Wide(List<Integer> ran, int i, int v) {
            super(ran, i, v);
        }

        @Override int tells(int x) {
            ran.add(40);
            return super.tells(x) + says(1);
        }
    }

    static final class Saint extends Proud {
        Saint(List<Integer> ran, int i, int v) {
            super(ran, i, v);
        }

        @Override int earns(int x) {
            ran.add(50);
            return -super.earns(x);
        }

        @Override int says(int x) {
            ran.add(51);
            return super.says(x + 1);
        }
    }

    static final class Lying extends Meek {
        Lying(List<Integer> ran, int i, int v) {
            super(ran, i, v);
        }

        @Override int tells(int x) {
            ran.add(60);
            return super.tells(x - i);
        }
    }

    static final class Told extends Wide {
        Told(List<Integer> ran, int i, int v) {
            super(ran, i, v);
        }

        @Override int says(int x) {
            ran.add(70);
            return super.says(x) + super.earns(2);
        }

        @Override int earns(int x) {
            ran.add(71);
            return super.earns(x) ^ v;
        }
    }

    private static Plain actor(int kind, List<Integer> ran, int i, int v) {
        return switch (kind) {
            case 1 -> new Proud(ran, i, v);
            case 2 -> new Meek(ran, i, v);
            case 3 -> new Wide(ran, i, v);
            case 4 -> new Saint(ran, i, v);
            case 5 -> new Lying(ran, i, v);
            case 6 -> new Told(ran, i, v);
            default -> new Plain(ran, i, v);
        };
    }

    // ---- the state

    private Town town = new Town(List.of(), 0, null);
    private List<Seen> seen = List.of();
    private List<Integer> book = List.of();
    private Image image;
    private String text = "";
    private int streets;
    private List<Integer> ran = new ArrayList<>();
    /** A tape is null, or a byte[], short[], int[], long[] or boolean[]. */
    private final Object[] tapes = new Object[6];

    // ---- houses, streets

    int house(int kind, int v, int earns) {
        if (kind < 0 || kind > 6) {
            return -1;
        }
        if (v < 0 || v > 9 || earns < 0 || earns > 99) {
            return -2;
        }
        if (town.houses.size() == 7) {
            return -4;
        }
        town = built(town.houses.size(), kind, v, earns);
        return town.houses.size() - 1;
    }

    private Town built(int place, int kind, int v, int earns) {
        List<House> more = new ArrayList<>(town.houses);
        more.add(place, new House(kind, v, earns, List.of(0, 0, 0, 0)));
        return new Town(more, town.year, town.street);
    }

    private boolean none(int house) {
        return house < 0 || house >= town.houses.size();
    }

    int of(int house, int what) {
        if (none(house) || what < 0 || what > 4) {
            return -1;
        }
        House asked = town.houses.get(house);
        return new int[] {asked.kind, asked.v, asked.earns, town.said().get(house),
            town.next(house, town.said())}[what];
    }

    int earn(int house, int n) {
        if (none(house)) {
            return -1;
        }
        if (n < 0 || n > 99) {
            return -2;
        }
        int was = town.houses.get(house).earns;
        town = town.earning(house, n);
        return was;
    }

    int row(int house, int part, int n) {
        if (none(house) || part < 0 || part > 3) {
            return -1;
        }
        if (n < 0 || n > 4) {
            return -2;
        }
        House told = town.houses.get(house);
        if (told.kind != 6) {
            return -3;
        }
        List<Integer> row = new ArrayList<>(told.row);
        int was = row.set(part, n);
        List<House> changed = new ArrayList<>(town.houses);
        changed.set(house, new House(6, told.v, told.earns, row));
        town = new Town(changed, town.year, town.street);
        return was;
    }

    int feed(int sign) {
        if (sign < 0 || sign > 127) {
            return -2;
        }
        if (text.length() == 100) {
            return -4;
        }
        text += (char) sign;
        return text.length();
    }

    private static Pattern grammar() {
        String test = "[hkveby][<=>][0-9][0-9]?";
        String factor = test;
        for (int nested = 0; nested < 4; nested++) {
            String either = factor + "(?:[&|]" + factor + ")*";
            factor = "(?:!" + factor + "|\\(" + either + "\\)|" + test + ")";
        }
        String either = factor + "(?:[&|]" + factor + ")*";
        String clause = "(?:(?:add|tax) [0-9][0-9]? " + either + "|ring|row)";
        return Pattern.compile(clause + "(?:;" + clause + "){0,9}", Pattern.DOTALL);
    }

    private static final Pattern STREET = grammar();

    /** -1: there is none. */
    static int fault(String text) {
        for (int p = 1; p <= text.length(); p++) {
            Matcher matcher = STREET.matcher(text.substring(0, p));
            if (!matcher.matches() && !matcher.hitEnd()) {
                return p - 1;
            }
        }
        return STREET.matcher(text).matches() ? -1 : text.length();
    }

    int street() {
        if (streets == 6) {
            return -4;
        }
        String read = text;
        text = "";
        int fault = fault(read);
        if (fault >= 0) {
            return -10 - fault;
        }
        town = new Town(town.houses, town.year, read);
        return streets++;
    }

    int told(int what) {
        return what == 0 ? town.year : what == 1 ? (town.ring() ? 1 : 0) : what == 2 ? town.all() : -1;
    }

    // ---- years

    int year() {
        if (town.year == 999) {
            return -3;
        }
        town = town.after(1);
        return town.year;
    }

    int at(int n, int what) {
        if (what != 10 && none(what)) {
            return -1;
        }
        if (n < 0 || n > 60) {
            return -2;
        }
        Town then = town.after(n);
        return what == 10 ? then.all() : then.houses.get(what).earns;
    }

    int stays() {
        for (int k = 0; k <= 60; k++) {
            if (town.after(k).earned().equals(town.after(k + 1).earned())) {
                return k;
            }
        }
        return -5;
    }

    int swings() {
        Town far = town.after(40);
        for (int k = 1; k <= 20; k++) {
            if (far.earned().equals(far.after(k).earned())) {
                return k;
            }
        }
        return -5;
    }

    // ---- gifts, lots, building

    int gift(int house, int n, int what) {
        if (none(house) || what < 0 || what > 1) {
            return -1001;
        }
        if (n < 0 || n > 99) {
            return -1002;
        }
        Town with = town.given(house, n).after(40);
        Town without = town.after(40);
        return what == 0 ? with.houses.get(house).earns - without.houses.get(house).earns
            : with.all() - without.all();
    }

    /** The first of so many numbers by which the most comes out; -5: there is none. */
    private static int most(int size, IntUnaryOperator by) {
        int best = -5;
        for (int i = size - 1; i >= 0; i--) {
            if (best < 0 || by.applyAsInt(i) >= by.applyAsInt(best)) {
                best = i;
            }
        }
        return best;
    }

    int best(int n) {
        if (n < 0 || n > 99) {
            return -2;
        }
        return most(town.houses.size(), h -> town.given(h, n).after(40).all());
    }

    int lots() {
        int[] pairs = new int[21];
        int[] totals = new int[21];
        int size = 0;
        for (int i = 0; i < 67; i++) {
            int one = i / 10;
            int other = i % 10;
            if (one < other && !none(one) && !none(other)) {
                pairs[size] = i;
                totals[size++] = town.earning(one, town.houses.get(other).earns)
                    .earning(other, town.houses.get(one).earns).after(20).all();
            }
        }
        int best = most(size, i -> totals[i]);
        return best < 0 || totals[best] <= town.after(20).all() ? -5 : pairs[best];
    }

    int build(int kind, int v, int earns, int what) {
        if (kind < 0 || kind > 6 || what < 0 || what > 1) {
            return -1;
        }
        if (v < 0 || v > 9 || earns < 0 || earns > 99) {
            return -2;
        }
        if (town.houses.size() == 7) {
            return -9;
        }
        IntUnaryOperator by = place -> built(place, kind, v, earns).after(20).all();
        int place = most(town.houses.size() + 1, by);
        return what == 0 ? place : by.applyAsInt(place);
    }

    int down(int what) {
        if (what < 0 || what > 1) {
            return -1;
        }
        IntUnaryOperator by = gone -> {
            List<House> left = new ArrayList<>(town.houses);
            left.remove(gone);
            return new Town(left, town.year, town.street).after(20).all();
        };
        int gone = most(town.houses.size(), by);
        return what == 0 || gone < 0 ? gone : by.applyAsInt(gone);
    }

    // ---- before, seen

    private void pasts(List<House> chosen, List<List<Integer>> found) {
        if (chosen.size() == town.houses.size()) {
            Town past = new Town(chosen, town.year - 1, town.street);
            if (past.after(1).earned().equals(town.earned())) {
                found.add(past.earned());
            }
            return;
        }
        for (int n : new TreeSet<>(town.earned())) {
            List<House> more = new ArrayList<>(chosen);
            more.add(town.houses.get(chosen.size()).earning(n));
            pasts(more, found);
        }
    }

    int before(int what) {
        if (what != -1 && none(what)) {
            return -1;
        }
        if (town.houses.size() > 4) {
            return -9;
        }
        if (town.year == 0) {
            return -8;
        }
        List<List<Integer>> found = new ArrayList<>();
        pasts(List.of(), found);
        return what == -1 ? found.size() : found.isEmpty() ? -5 : found.get(0).get(what);
    }

    int see(int house, int n) {
        if (house == -1) {
            seen = List.of();
            return 0;
        }
        if (none(house)) {
            return -1;
        }
        if (n < 0 || n > 99) {
            return -2;
        }
        if (seen.size() == 8) {
            return -4;
        }
        seen = new ArrayList<>(seen);
        seen.add(new Seen(house, n));
        return seen.size();
    }

    private boolean soBy(List<Integer> said) {
        return seen.stream().allMatch(s -> town.next(s.house, said) == s.n);
    }

    int lied(int what) {
        if (what < 0 || what > 1) {
            return -1;
        }
        if (what == 1) {
            return soBy(town.earned()) ? 1 : 0;
        }
        int bits = 0;
        for (int h = 0; h < town.houses.size(); h++) {
            List<Integer> said = new ArrayList<>(town.earned());
            said.set(h, 0);
            bits += soBy(said) ? 1 << h : 0;
        }
        return bits;
    }

    int wed(int one, int other) {
        if (none(one) || none(other)) {
            return -1;
        }
        if (one == other) {
            return -2;
        }
        int half = (town.houses.get(one).earns + town.houses.get(other).earns) / 2;
        List<Integer> with = town.earning(one, half).earning(other, half).after(10).earned();
        List<Integer> without = town.after(10).earned();
        int otherwise = 0;
        for (int h = 0; h < with.size(); h++) {
            otherwise += with.get(h).equals(without.get(h)) ? 0 : 1;
        }
        return otherwise;
    }

    // ---- odds, books

    private static long part(int above, int below, int part) {
        for (int d = below; d > 1; d--) {
            if (above % d == 0 && below % d == 0) {
                return part == 0 ? above / d : below / d;
            }
        }
        return part == 0 ? above : below;
    }

    long odds(int house, int n, int part) {
        if (none(house) || n < 0 || n > 99 || part < 0 || part > 1) {
            return NO;
        }
        int so = 0;
        for (int h = 0; h < town.houses.size(); h++) {
            so += town.given(h, 9).after(40).houses.get(house).earns >= n ? 1 : 0;
        }
        return part(so, town.houses.size(), part);
    }

    long mean(int n, int part) {
        if (n < 1 || n > 60 || part < 0 || part > 1 || town.houses.isEmpty()) {
            return NO;
        }
        int all = 0;
        Town then = town;
        for (int i = 0; i < n; i++) {
            then = then.after(1);
            all += then.all();
        }
        return part(all, n * town.houses.size(), part);
    }

    int book(int n) {
        if (n == -1) {
            book = List.of();
            return 0;
        }
        if (n < -2 || n > 99) {
            return -2;
        }
        if (book.size() == 12) {
            return -4;
        }
        book = new ArrayList<>(book);
        book.add(n);
        return book.size();
    }

    int looked() {
        if (town.houses.isEmpty()) {
            return -3;
        }
        for (int i = 0; i < book.size(); i++) {
            if (book.get(i) != -2 && book.get(i) != town.after(i + 1).houses.get(0).earns) {
                return i;
            }
        }
        return -5;
    }

    // ---- judging, the image, acts, tapes

    int judge(int tape, int i) {
        if (tape < 0 || tape > 5) {
            return -1;
        }
        if (tapes[tape] != null && !(tapes[tape] instanceof short[])) {
            return -12;
        }
        if (town.houses.isEmpty()) {
            return -5;
        }
        if (tapes[tape] == null || i < 0) {
            return 100;
        }
        short[] row = (short[]) tapes[tape];
        short[] told = i >= row.length ? new short[0] : Arrays.copyOfRange(row, i, row.length);
        for (int h = 0; h < told.length && h < town.houses.size(); h++) {
            if (told[h] != town.houses.get(h).earns) {
                return h;
            }
        }
        return told.length < town.houses.size() ? 100 + told.length : -5;
    }

    int image() {
        image = new Image(town, seen, book);
        return town.houses.size();
    }

    int undo() {
        if (image == null) {
            return -3;
        }
        town = image.town;
        seen = image.seen;
        book = image.book;
        return town.houses.size();
    }

    int act(int house, int act, int x) {
        ran = new ArrayList<>();
        if (none(house) || act < 0 || act > 2) {
            return 0;
        }
        Plain actor = actor(town.houses.get(house).kind, ran, house, town.houses.get(house).v);
        return act == 0 ? actor.earns(x) : act == 1 ? actor.says(x) : actor.tells(x);
    }

    int trace(int i) {
        return i < 0 || i >= 20 || i >= ran.size() ? -1 : ran.get(i);
    }

    int taken(int house, int k) {
        if (k < 0 || k > 6) {
            return -2;
        }
        if (none(house)) {
            return -11;
        }
        int kind = town.houses.get(house).kind;
        Class<?> wanted = actor(k, ran, 0, 0).getClass();
        return wanted.isInstance(actor(kind, ran, 0, 0)) ? kind : -12;
    }

    int count(int what) {
        return switch (what) {
            case 0 -> town.houses.size();
            case 1 -> streets;
            case 2 -> seen.size();
            case 3 -> book.size();
            case 4 -> text.length();
            case 5 -> ran.size();
            default -> -2;
        };
    }

    int tape(int tape, int sort, int n) {
        if (tape < 0 || tape > 5) {
            return -1;
        }
        if (sort == -1) {
            tapes[tape] = null;
            return 1;
        }
        if (sort < 0 || sort > 4 || n > 60) {
            return -2;
        }
        if (n < 0) {
            return -14;
        }
        tapes[tape] = switch (sort) {
            case 0 -> new byte[n];
            case 1 -> new short[n];
            case 2 -> new int[n];
            case 3 -> new long[n];
            default -> new boolean[n];
        };
        return 1;
    }

    private boolean inside(int tape, long from, long n) {
        return from >= 0 && n >= 0 && from + n <= java.lang.reflect.Array.getLength(tapes[tape]);
    }

    int item(int tape, int i, long v) {
        if (tape < 0 || tape > 5) {
            return -1;
        }
        if (tapes[tape] == null) {
            return -11;
        }
        if (!inside(tape, i, 1)) {
            return -13;
        }
        if (tapes[tape] instanceof byte[] row) {
            row[i] = (byte) v;
        } else if (tapes[tape] instanceof short[] row) {
            row[i] = (short) v;
        } else if (tapes[tape] instanceof int[] row) {
            row[i] = (int) v;
        } else if (tapes[tape] instanceof long[] row) {
            row[i] = v;
        } else if (tapes[tape] instanceof boolean[] row) {
            row[i] = v != 0;
        }
        return 1;
    }

    long read(int tape, int i) {
        if (tape < 0 || tape > 5 || tapes[tape] == null || !inside(tape, i, 1)) {
            return NO;
        }
        Object item = java.lang.reflect.Array.get(tapes[tape], i);
        return item instanceof Boolean yes ? (yes ? 1 : 0) : ((Number) item).longValue();
    }

    int shift(int tape, int i, int other, int j, int n) {
        if (tape < 0 || tape > 5 || other < 0 || other > 5) {
            return -1;
        }
        if (tapes[tape] == null || tapes[other] == null) {
            return -11;
        }
        if (tapes[tape].getClass() != tapes[other].getClass()) {
            return -12;
        }
        if (!inside(tape, i, n) || !inside(other, j, n)) {
            return -13;
        }
        System.arraycopy(tapes[tape], i, tapes[other], j, n);
        return n;
    }
}
