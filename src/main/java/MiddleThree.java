/**
 * The middle of three: houses along a street, each of which earns next year the middle one of what
 * it and the two beside it do. No call makes an object: all that calls need is made with the object.
 */
public final class MiddleThree {
    public static final int NONE = -1, BAD = -2, STATE = -3, FULL = -4;
    /** There is no such number. */
    public static final long NO = Long.MIN_VALUE;

    private static final int NEVER = -5;
    private static final int YEAR_IS_0 = -8;
    private static final int TOO_MANY = -9;
    private static final int FAULT_BASE = -10;
    private static final int NOTHING = -11;
    private static final int CAST = -12;
    private static final int PLACE = -13;
    private static final int SIZE = -14;
    private static final int GIFT_NONE = -1001;
    private static final int GIFT_BAD = -1002;

    private static final int HOUSE = 0, PROUD = 1, MEEK = 2, WIDE = 3, SAINT = 4, LYING = 5, TOLD = 6;
    private static final int TOP = -1;
    private static final int[] ABOVE = {TOP, HOUSE, HOUSE, HOUSE, PROUD, MEEK, WIDE};

    private static final int MOST_HOUSES = 7;
    private static final int MOST_EARNED = 99;
    private static final int MOST_V = 9;
    private static final int ROW_PARTS = 4;
    private static final int MOST_IN_WIDE = 5;
    private static final int LAST_YEAR = 999;
    private static final int MOST_AHEAD = 60;
    private static final int LONG_RUN = 40;
    private static final int SHORT_RUN = 20;
    private static final int WED_RUN = 10;
    private static final int ODDS_GIFT = 9;
    private static final int MOST_DIVISIONS = 100;
    private static final int ALL = 10;
    private static final int MOST_BEFORE = 4;

    private static final int MOST_SIGNS = 100;
    private static final int LAST_SIGN = 127;
    private static final int MOST_CLAUSES = 10;
    private static final int MOST_STREETS = 6;
    private static final int MOST_NESTED = 4;
    private static final int NO_FAULT = -1;
    private static final int END = -1;
    /** The letters of a TEST; a letter's place here is its place among the facts of a HOUSE. */
    private static final String LETTERS = "hkveby";
    private static final int NOT = 6, AND = 7, OR = 8;

    private static final int MOST_SEEN = 8;
    private static final int MOST_BOOK = 12;
    private static final int GAP = -2;

    private static final int EARNS = 0, SAYS = 1, TELLS = 2;
    private static final int MOST_KEPT = 20;
    private static final int DEEPEST = 40;

    private static final int TAPES = 6;
    private static final int MOST_ITEMS = 60;
    private static final int HOLDS_NOTHING = -1;
    private static final int BYTES = 0, SHORTS = 1, INTS = 2, BOOLEANS = 4;
    private static final int ROW_ENDED = 100;

    private final Town now = new Town();
    private final Town later = new Town();
    private final Town imageTown = new Town();
    private final Notes notes = new Notes();
    private final Notes imageNotes = new Notes();
    private boolean imageTaken;

    private final StreetReader reader = new StreetReader();
    private final Street[] streets = new Street[MOST_STREETS];
    private int streetCount;

    private final Acts acts = new Acts();
    private final Tape[] tapes = new Tape[TAPES];

    /** What HOUSES EARN in one run, kept while another run is made. */
    private final int[] kept = new int[MOST_HOUSES];
    /** What is EARNED now, each number once, the least first. */
    private final int[] values = new int[MOST_HOUSES];

    public MiddleThree() {
        for (int s = 0; s < MOST_STREETS; s++) {
            streets[s] = new Street();
        }
        for (int t = 0; t < TAPES; t++) {
            tapes[t] = new Tape();
        }
    }

    // ---- houses, streets

    public int house(int kind, int v, int earns) {
        if (!isKind(kind)) {
            return NONE;
        }
        if (!isV(v) || !isEarned(earns)) {
            return BAD;
        }
        if (now.count >= MOST_HOUSES) {
            return FULL;
        }
        now.insert(now.count, kind, v, earns);
        return now.count - 1;
    }

    public int of(int house, int what) {
        if (!isHouse(house)) {
            return NONE;
        }
        switch (what) {
            case 0:
                return now.kinds[house];
            case 1:
                return now.vs[house];
            case 2:
                return now.earns[house];
            case 3:
                now.sayByKind();
                return now.says[house];
            case 4:
                now.sayByKind();
                now.reckon();
                return now.next[house];
            default:
                return NONE;
        }
    }

    public int earn(int house, int n) {
        if (!isHouse(house)) {
            return NONE;
        }
        if (!isEarned(n)) {
            return BAD;
        }
        int was = now.earns[house];
        now.earns[house] = n;
        return was;
    }

    public int row(int house, int part, int n) {
        if (!isHouse(house) || part < 0 || part >= ROW_PARTS) {
            return NONE;
        }
        if (n < 0 || n >= MOST_IN_WIDE) {
            return BAD;
        }
        if (now.kinds[house] != TOLD) {
            return STATE;
        }
        int was = now.rows[house * ROW_PARTS + part];
        now.rows[house * ROW_PARTS + part] = n;
        return was;
    }

    public int feed(int sign) {
        if (sign < 0 || sign > LAST_SIGN) {
            return BAD;
        }
        return reader.addSign(sign);
    }

    public int street() {
        if (streetCount >= MOST_STREETS) {
            return FULL;
        }
        int fault = reader.readStreet();
        reader.clear();
        if (fault != NO_FAULT) {
            return FAULT_BASE - fault;
        }
        Street newest = streets[streetCount];
        newest.takeFrom(reader.street);
        now.street = newest;
        streetCount++;
        return streetCount - 1;
    }

    public int told(int what) {
        switch (what) {
            case 0:
                return now.year;
            case 1:
                return now.isRing() ? 1 : 0;
            case 2:
                return now.total();
            default:
                return NONE;
        }
    }

    // ---- years

    public int year() {
        if (now.year >= LAST_YEAR) {
            return STATE;
        }
        now.go(1);
        return now.year;
    }

    public int at(int n, int what) {
        boolean one = isHouse(what);
        if (!one && what != ALL) {
            return NONE;
        }
        if (n < 0 || n > MOST_AHEAD) {
            return BAD;
        }
        later.takeFrom(now);
        later.go(n);
        return one ? later.earns[what] : later.total();
    }

    public int stays() {
        later.takeFrom(now);
        for (int years = 0; years <= MOST_AHEAD; years++) {
            keepLater();
            later.go(1);
            if (laterOtherwise() == 0) {
                return years;
            }
        }
        return NEVER;
    }

    public int swings() {
        later.takeFrom(now);
        later.go(LONG_RUN);
        keepLater();
        for (int years = 1; years <= SHORT_RUN; years++) {
            later.go(1);
            if (laterOtherwise() == 0) {
                return years;
            }
        }
        return NEVER;
    }

    // ---- gifts, lots, building

    public int gift(int house, int n, int what) {
        if (!isHouse(house) || !isWhich(what)) {
            return GIFT_NONE;
        }
        if (!isEarned(n)) {
            return GIFT_BAD;
        }
        later.takeFrom(now);
        later.go(LONG_RUN);
        int allWithout = later.total();
        int without = later.earns[house];
        later.takeFrom(now);
        later.give(house, n);
        later.go(LONG_RUN);
        int allWith = later.total();
        return what == 0 ? later.earns[house] - without : allWith - allWithout;
    }

    public int best(int n) {
        if (!isEarned(n)) {
            return BAD;
        }
        int best = NEVER;
        int most = -1;
        for (int h = 0; h < now.count; h++) {
            later.takeFrom(now);
            later.give(h, n);
            later.go(LONG_RUN);
            int all = later.total();
            if (all > most) {
                most = all;
                best = h;
            }
        }
        return best;
    }

    public int lots() {
        later.takeFrom(now);
        later.go(SHORT_RUN);
        int most = later.total();
        int best = NEVER;
        for (int one = 0; one < now.count; one++) {
            for (int other = one + 1; other < now.count; other++) {
                later.takeFrom(now);
                later.earns[one] = now.earns[other];
                later.earns[other] = now.earns[one];
                later.go(SHORT_RUN);
                int all = later.total();
                if (all > most) {
                    most = all;
                    best = 10 * one + other;
                }
            }
        }
        return best;
    }

    public int build(int kind, int v, int earns, int what) {
        if (!isKind(kind) || !isWhich(what)) {
            return NONE;
        }
        if (!isV(v) || !isEarned(earns)) {
            return BAD;
        }
        if (now.count >= MOST_HOUSES) {
            return TOO_MANY;
        }
        int best = 0;
        int most = -1;
        for (int place = 0; place <= now.count; place++) {
            later.takeFrom(now);
            later.insert(place, kind, v, earns);
            later.go(SHORT_RUN);
            int all = later.total();
            if (all > most) {
                most = all;
                best = place;
            }
        }
        return what == 0 ? best : most;
    }

    public int down(int what) {
        if (!isWhich(what)) {
            return NONE;
        }
        int best = NEVER;
        int most = NEVER;
        for (int h = 0; h < now.count; h++) {
            later.takeFrom(now);
            later.remove(h);
            later.go(SHORT_RUN);
            int all = later.total();
            if (all > most) {
                most = all;
                best = h;
            }
        }
        return what == 0 ? best : most;
    }

    // ---- before, seen

    public int before(int what) {
        if (what != -1 && !isHouse(what)) {
            return NONE;
        }
        if (now.count > MOST_BEFORE) {
            return TOO_MANY;
        }
        if (now.year == 0) {
            return YEAR_IS_0;
        }
        int different = listValues();
        int rows = 1;
        for (int h = 0; h < now.count; h++) {
            rows *= different;
        }
        later.takeFrom(now);
        int found = 0;
        int first = NEVER;
        for (int number = 0; number < rows; number++) {
            setLaterRow(number, different);
            int earned = what == -1 ? 0 : later.earns[what];
            later.year = now.year - 1;
            later.go(1);
            if (laterAsNow()) {
                first = found == 0 ? earned : first;
                found++;
            }
        }
        return what == -1 ? found : first;
    }

    public int see(int house, int n) {
        if (house == -1) {
            notes.seenCount = 0;
            return 0;
        }
        if (!isHouse(house)) {
            return NONE;
        }
        if (!isEarned(n)) {
            return BAD;
        }
        return notes.addSeen(house, n);
    }

    public int lied(int what) {
        if (!isWhich(what)) {
            return NONE;
        }
        later.takeFrom(now);
        if (what == 1) {
            return allSeenIfLies(-1) ? 1 : 0;
        }
        int bits = 0;
        for (int h = 0; h < now.count; h++) {
            if (allSeenIfLies(h)) {
                bits |= 1 << h;
            }
        }
        return bits;
    }

    public int wed(int one, int other) {
        if (!isHouse(one) || !isHouse(other)) {
            return NONE;
        }
        if (one == other) {
            return BAD;
        }
        later.takeFrom(now);
        later.go(WED_RUN);
        keepLater();
        later.takeFrom(now);
        int half = (now.earns[one] + now.earns[other]) / 2;
        later.earns[one] = half;
        later.earns[other] = half;
        later.go(WED_RUN);
        return laterOtherwise();
    }

    // ---- odds, books

    public long odds(int house, int n, int part) {
        if (!isHouse(house) || !isEarned(n) || !isWhich(part)) {
            return NO;
        }
        int likely = 0;
        for (int h = 0; h < now.count; h++) {
            later.takeFrom(now);
            later.give(h, ODDS_GIFT);
            later.go(LONG_RUN);
            if (later.earns[house] >= n) {
                likely++;
            }
        }
        return lowest(likely, now.count, part);
    }

    public long mean(int n, int part) {
        if (n < 1 || n > MOST_AHEAD || !isWhich(part) || now.count == 0) {
            return NO;
        }
        later.takeFrom(now);
        int all = 0;
        for (int years = 1; years <= n; years++) {
            later.go(1);
            all += later.total();
        }
        return lowest(all, n * now.count, part);
    }

    public int book(int n) {
        if (n == -1) {
            notes.bookCount = 0;
            return 0;
        }
        if (n != GAP && !isEarned(n)) {
            return BAD;
        }
        return notes.addBook(n);
    }

    public int looked() {
        if (now.count == 0) {
            return STATE;
        }
        later.takeFrom(now);
        for (int i = 0; i < notes.bookCount; i++) {
            later.go(1);
            if (notes.book[i] != GAP && notes.book[i] != later.earns[0]) {
                return i;
            }
        }
        return NEVER;
    }

    // ---- judging, the image, acts, tapes

    public int judge(int tape, int i) {
        if (!isTape(tape)) {
            return NONE;
        }
        Tape told = tapes[tape];
        if (told.sort != HOLDS_NOTHING && told.sort != SHORTS) {
            return CAST;
        }
        for (int h = 0; h < now.count; h++) {
            if (i < 0 || i >= told.size - h) {
                return ROW_ENDED + h;
            }
            if (told.items[i + h] != now.earns[h]) {
                return h;
            }
        }
        return NEVER;
    }

    public int image() {
        imageTown.takeFrom(now);
        imageNotes.takeFrom(notes);
        imageTaken = true;
        return now.count;
    }

    public int undo() {
        if (!imageTaken) {
            return STATE;
        }
        now.takeFrom(imageTown);
        notes.takeFrom(imageNotes);
        return now.count;
    }

    public int act(int house, int act, int x) {
        acts.clear();
        if (!isHouse(house)) {
            return 0;
        }
        acts.choose(now.kinds[house], now.vs[house], house);
        return acts.perform(act, x);
    }

    public int trace(int i) {
        if (i < 0 || i >= acts.ran || i >= MOST_KEPT) {
            return NONE;
        }
        return acts.bodies[i];
    }

    public int taken(int house, int k) {
        if (!isKind(k)) {
            return BAD;
        }
        if (!isHouse(house)) {
            return NOTHING;
        }
        int kind = now.kinds[house];
        return isUnder(kind, k) ? kind : CAST;
    }

    public int count(int what) {
        switch (what) {
            case 0:
                return now.count;
            case 1:
                return streetCount;
            case 2:
                return notes.seenCount;
            case 3:
                return notes.bookCount;
            case 4:
                return reader.size;
            case 5:
                return acts.ran;
            default:
                return BAD;
        }
    }

    public int tape(int tape, int sort, int n) {
        if (!isTape(tape)) {
            return NONE;
        }
        if (sort < HOLDS_NOTHING || sort > BOOLEANS) {
            return BAD;
        }
        if (sort == HOLDS_NOTHING) {
            tapes[tape].become(HOLDS_NOTHING, 0);
            return 1;
        }
        if (n > MOST_ITEMS) {
            return BAD;
        }
        if (n < 0) {
            return SIZE;
        }
        tapes[tape].become(sort, n);
        return 1;
    }

    public int item(int tape, int i, long v) {
        if (!isTape(tape)) {
            return NONE;
        }
        Tape row = tapes[tape];
        if (row.sort == HOLDS_NOTHING) {
            return NOTHING;
        }
        if (i < 0 || i >= row.size) {
            return PLACE;
        }
        row.items[i] = row.fitted(v);
        return 1;
    }

    public long read(int tape, int i) {
        if (!isTape(tape) || i < 0 || i >= tapes[tape].size) {
            return NO;
        }
        return tapes[tape].items[i];
    }

    public int shift(int tape, int i, int other, int j, int n) {
        if (!isTape(tape) || !isTape(other)) {
            return NONE;
        }
        Tape from = tapes[tape];
        Tape to = tapes[other];
        if (from.sort == HOLDS_NOTHING || to.sort == HOLDS_NOTHING) {
            return NOTHING;
        }
        if (from.sort != to.sort) {
            return CAST;
        }
        if (!from.reaches(i, n) || !to.reaches(j, n)) {
            return PLACE;
        }
        System.arraycopy(from.items, i, to.items, j, n);
        return n;
    }

    // ---- what several calls ask

    private boolean isHouse(int house) {
        return house >= 0 && house < now.count;
    }

    private static boolean isKind(int kind) {
        return kind >= HOUSE && kind <= TOLD;
    }

    private static boolean isV(int v) {
        return v >= 0 && v <= MOST_V;
    }

    private static boolean isEarned(int n) {
        return n >= 0 && n <= MOST_EARNED;
    }

    /** Whether it is the first or the second of two things that a call tells. */
    private static boolean isWhich(int what) {
        return what == 0 || what == 1;
    }

    private static boolean isTape(int tape) {
        return tape >= 0 && tape < TAPES;
    }

    private static boolean isUnder(int kind, int k) {
        int above = kind;
        for (int step = 0; step < ABOVE.length && isKind(above); step++) {
            if (above == k) {
                return true;
            }
            above = ABOVE[above];
        }
        return false;
    }

    private void keepLater() {
        System.arraycopy(later.earns, 0, kept, 0, MOST_HOUSES);
    }

    /** How many HOUSES EARN something else than what was kept. */
    private int laterOtherwise() {
        int otherwise = 0;
        for (int h = 0; h < later.count; h++) {
            if (later.earns[h] != kept[h]) {
                otherwise++;
            }
        }
        return otherwise;
    }

    private boolean laterAsNow() {
        for (int h = 0; h < now.count; h++) {
            if (later.earns[h] != now.earns[h]) {
                return false;
            }
        }
        return true;
    }

    /** Puts what is EARNED now into values: how many there are. */
    private int listValues() {
        int size = 0;
        for (int n = 0; n <= MOST_EARNED; n++) {
            if (now.someEarns(n) && size < MOST_HOUSES) {
                values[size] = n;
                size++;
            }
        }
        return size;
    }

    /** The number's digits, by how many values there are, choose what HOUSES EARN; the last digit that of the last. */
    private void setLaterRow(int number, int different) {
        int rest = number;
        for (int h = now.count - 1; h >= 0 && different > 0; h--) {
            later.earns[h] = values[rest % different];
            rest /= different;
        }
    }

    /** Whether all of SEEN would be so, if this HOUSE (-1: none) SAID 0 and all others what they EARN. */
    private boolean allSeenIfLies(int house) {
        later.sayPlain(house);
        later.reckon();
        for (int i = 0; i < notes.seenCount; i++) {
            int seen = notes.seenHouses[i];
            if (!isHouse(seen) || later.next[seen] != notes.seenEarned[i]) {
                return false;
            }
        }
        return true;
    }

    private static long lowest(int above, int below, int part) {
        int common = above;
        int other = below;
        for (int step = 0; step < MOST_DIVISIONS && other != 0; step++) {
            int rest = common % other;
            common = other;
            other = rest;
        }
        if (common == 0) {
            return NO;
        }
        return part == 0 ? above / common : below / common;
    }

    /** The HOUSES, YEAR and which STREET holds. */
    private static final class Town {
        int count;
        int year;
        /** null: no STREET holds. */
        Street street;
        final int[] kinds = new int[MOST_HOUSES];
        final int[] vs = new int[MOST_HOUSES];
        final int[] earns = new int[MOST_HOUSES];
        final int[] rows = new int[MOST_HOUSES * ROW_PARTS];
        final int[] says = new int[MOST_HOUSES];
        final int[] next = new int[MOST_HOUSES];
        private final int[] wide = new int[MOST_IN_WIDE];
        private int wideSize;
        private final int[] facts = new int[LETTERS.length()];

        void takeFrom(Town other) {
            count = other.count;
            year = other.year;
            street = other.street;
            System.arraycopy(other.kinds, 0, kinds, 0, MOST_HOUSES);
            System.arraycopy(other.vs, 0, vs, 0, MOST_HOUSES);
            System.arraycopy(other.earns, 0, earns, 0, MOST_HOUSES);
            System.arraycopy(other.rows, 0, rows, 0, MOST_HOUSES * ROW_PARTS);
        }

        void insert(int place, int kind, int v, int earned) {
            if (place < 0 || place > count || count >= MOST_HOUSES) {
                return;
            }
            for (int h = count; h > place; h--) {
                copyHouse(h - 1, h);
            }
            count++;
            kinds[place] = kind;
            vs[place] = v;
            earns[place] = earned;
            for (int part = 0; part < ROW_PARTS; part++) {
                rows[place * ROW_PARTS + part] = 0;
            }
        }

        void remove(int place) {
            if (place < 0 || place >= count) {
                return;
            }
            count--;
            for (int h = place; h < count; h++) {
                copyHouse(h + 1, h);
            }
        }

        private void copyHouse(int from, int to) {
            kinds[to] = kinds[from];
            vs[to] = vs[from];
            earns[to] = earns[from];
            System.arraycopy(rows, from * ROW_PARTS, rows, to * ROW_PARTS, ROW_PARTS);
        }

        void give(int house, int n) {
            earns[house] = Math.min(MOST_EARNED, earns[house] + n);
        }

        boolean isRing() {
            return street != null && street.ring;
        }

        int total() {
            int all = 0;
            for (int h = 0; h < count; h++) {
                all += earns[h];
            }
            return all;
        }

        boolean someEarns(int n) {
            for (int h = 0; h < count; h++) {
                if (earns[h] == n) {
                    return true;
                }
            }
            return false;
        }

        void go(int years) {
            for (int i = 0; i < years; i++) {
                sayByKind();
                reckon();
                System.arraycopy(next, 0, earns, 0, count);
                year++;
            }
        }

        void sayByKind() {
            for (int h = 0; h < count; h++) {
                boolean lies = kinds[h] == LYING && year % 9 == vs[h];
                says[h] = lies ? 0 : earns[h];
            }
        }

        /** All SAY what they EARN, but that one 0 (-1: none does). */
        void sayPlain(int liar) {
            for (int h = 0; h < count; h++) {
                says[h] = h == liar ? 0 : earns[h];
            }
        }

        /** NEXT of all HOUSES, by what they SAY. */
        void reckon() {
            for (int h = 0; h < count; h++) {
                next[h] = Math.max(0, Math.min(MOST_EARNED, nextByKind(h) + adds(h)));
            }
        }

        private int nextByKind(int h) {
            switch (kinds[h]) {
                case PROUD:
                    return proud(h);
                case SAINT:
                    return takesHalf(h) ? proud(h) / 2 : proud(h);
                case MEEK:
                case LYING:
                    return Math.min(middle(h), earns[h]);
                case WIDE:
                    fillWide(h);
                    return wide[(wideSize - 1) / 2];
                case TOLD:
                    fillWide(h);
                    return wide[Math.min(rows[h * ROW_PARTS + year % ROW_PARTS], wideSize - 1)];
                default:
                    return middle(h);
            }
        }

        private int proud(int h) {
            return Math.max(middle(h), 5 * vs[h]);
        }

        /** Whether a SAINT takes the half this YEAR. */
        private boolean takesHalf(int h) {
            int beat = vs[h] + 2;
            return beat > 0 && year % beat == 0;
        }

        private int middle(int h) {
            boolean atEnd = h == 0 || h == count - 1;
            if (count < 3 || (atEnd && !isRing())) {
                return earns[h];
            }
            int ahead = says[h == 0 ? count - 1 : h - 1];
            int behind = says[h == count - 1 ? 0 : h + 1];
            int less = Math.min(ahead, behind);
            int more = Math.max(ahead, behind);
            return Math.max(less, Math.min(more, earns[h]));
        }

        /** What a HOUSE EARNS and all 1 or 2 places away SAY, from the least on. */
        private void fillWide(int h) {
            boolean ring = isRing();
            wideSize = 0;
            addWide(earns[h]);
            for (int other = 0; other < count; other++) {
                int away = Math.abs(other - h);
                if (ring) {
                    away = Math.min(away, count - away);
                }
                if (away == 1 || away == 2) {
                    addWide(says[other]);
                }
            }
        }

        private void addWide(int n) {
            if (wideSize >= MOST_IN_WIDE) {
                return;
            }
            int place = wideSize;
            for (; place > 0 && wide[place - 1] > n; place--) {
                wide[place] = wide[place - 1];
            }
            wide[place] = n;
            wideSize++;
        }

        private int adds(int h) {
            if (street == null) {
                return 0;
            }
            int richer = 0;
            for (int other = 0; other < count; other++) {
                if (earns[other] > earns[h]) {
                    richer++;
                }
            }
            facts[0] = h;
            facts[1] = kinds[h];
            facts[2] = vs[h];
            facts[3] = earns[h] / 10;
            facts[4] = richer;
            facts[5] = year % 10;
            return street.addsBy(facts);
        }
    }

    /** CLAUSES as read: of each add or tax its n, and its E with what joins two TESTS behind both. */
    private static final class Street {
        boolean ring;
        private int changes;
        /** Of a tax it is below 0. */
        private final int[] amounts = new int[MOST_CLAUSES];
        private final int[] ends = new int[MOST_CLAUSES];
        private int size;
        private final int[] steps = new int[MOST_SIGNS];
        private final int[] signs = new int[MOST_SIGNS];
        private final int[] numbers = new int[MOST_SIGNS];

        void clear() {
            ring = false;
            changes = 0;
            size = 0;
        }

        void takeFrom(Street other) {
            ring = other.ring;
            changes = other.changes;
            size = other.size;
            System.arraycopy(other.amounts, 0, amounts, 0, MOST_CLAUSES);
            System.arraycopy(other.ends, 0, ends, 0, MOST_CLAUSES);
            System.arraycopy(other.steps, 0, steps, 0, MOST_SIGNS);
            System.arraycopy(other.signs, 0, signs, 0, MOST_SIGNS);
            System.arraycopy(other.numbers, 0, numbers, 0, MOST_SIGNS);
        }

        /** Adds a step of an E: a TEST of a fact, or NOT, AND, OR (sign and number do not matter). */
        void put(int step, int sign, int number) {
            if (size < MOST_SIGNS) {
                steps[size] = step;
                signs[size] = sign;
                numbers[size] = number;
                size++;
            }
        }

        /** Ends an E, and with it an add or a tax. */
        boolean close(int amount) {
            if (changes >= MOST_CLAUSES) {
                return false;
            }
            amounts[changes] = amount;
            ends[changes] = size;
            changes++;
            return true;
        }

        int addsBy(int[] facts) {
            int all = 0;
            int start = 0;
            for (int c = 0; c < changes; c++) {
                if (holds(start, ends[c], facts)) {
                    all += amounts[c];
                }
                start = ends[c];
            }
            return all;
        }

        private boolean holds(int start, int end, int[] facts) {
            // what waits for a later step, the newest as the lowest bit: never more than 11, as nesting is at most 4
            int waiting = 0;
            for (int s = start; s < end; s++) {
                int newest = waiting & 1;
                switch (steps[s]) {
                    case NOT:
                        waiting ^= 1;
                        break;
                    case AND:
                        waiting = (waiting >> 1) & (newest | ~1);
                        break;
                    case OR:
                        waiting = (waiting >> 1) | newest;
                        break;
                    default:
                        waiting = waiting << 1 | (passes(s, facts) ? 1 : 0);
                        break;
                }
            }
            return (waiting & 1) == 1;
        }

        private boolean passes(int s, int[] facts) {
            int fact = steps[s];
            if (fact < 0 || fact >= facts.length) {
                return false;
            }
            switch (signs[s]) {
                case '<':
                    return facts[fact] < numbers[s];
                case '>':
                    return facts[fact] > numbers[s];
                default:
                    return facts[fact] == numbers[s];
            }
        }
    }

    /** THE TEXT and its reading. What reads a part answers whether it could; if not, place is left at the FAULT. */
    private static final class StreetReader {
        int size;
        /** The STREET that was read last; only a part of it behind a FAULT. */
        final Street street = new Street();
        private final byte[] signs = new byte[MOST_SIGNS];
        private int place;

        int addSign(int sign) {
            if (size >= MOST_SIGNS) {
                return FULL;
            }
            signs[size] = (byte) sign;
            size++;
            return size;
        }

        void clear() {
            size = 0;
        }

        /** The FAULT of THE TEXT, or NO_FAULT. */
        int readStreet() {
            place = 0;
            street.clear();
            for (int clauses = 1; clauses <= MOST_CLAUSES; clauses++) {
                if (!clause()) {
                    return place;
                }
                if (place >= size) {
                    return NO_FAULT;
                }
                if (clauses == MOST_CLAUSES || !word(";")) {
                    return place;
                }
            }
            return place;
        }

        private int sign() {
            return place < size ? signs[place] : END;
        }

        private boolean clause() {
            boolean tax = sign() == 't';
            if (sign() == 'r') {
                return shape();
            }
            if (!word(tax ? "tax " : "add ")) {
                return false;
            }
            int n = number();
            return n >= 0 && word(" ") && either(0) && street.close(tax ? -n : n);
        }

        private boolean shape() {
            place++;
            street.ring = sign() == 'i';
            return word(street.ring ? "ing" : "ow");
        }

        private boolean word(String wanted) {
            for (int i = 0; i < wanted.length(); i++) {
                if (sign() != wanted.charAt(i)) {
                    return false;
                }
                place++;
            }
            return true;
        }

        /** A number of 1 or 2 digits; -1: there is none. */
        private int number() {
            int n = -1;
            for (int digit = 0; digit < 2; digit++) {
                int sign = sign();
                if (sign < '0' || sign > '9') {
                    return n;
                }
                n = Math.max(n, 0) * 10 + sign - '0';
                place++;
            }
            return n;
        }

        /** An E within so many ( and !. */
        private boolean either(int depth) {
            boolean or = false;
            boolean and = false;
            for (int factors = 0; factors < MOST_SIGNS; factors++) {
                if (!factor(depth)) {
                    return false;
                }
                if (and) {
                    street.put(AND, 0, 0);
                }
                and = sign() == '&';
                if (!and) {
                    if (or) {
                        street.put(OR, 0, 0);
                    }
                    or = sign() == '|';
                    if (!or) {
                        return true;
                    }
                }
                place++;
            }
            return false;
        }

        private boolean factor(int depth) {
            int sign = sign();
            if (depth >= MOST_NESTED || (sign != '!' && sign != '(')) {
                return test();
            }
            place++;
            if (sign == '(') {
                return either(depth + 1) && word(")");
            }
            if (!factor(depth + 1)) {
                return false;
            }
            street.put(NOT, 0, 0);
            return true;
        }

        private boolean test() {
            int letter = sign() == END ? -1 : LETTERS.indexOf((char) sign());
            if (letter < 0) {
                return false;
            }
            place++;
            int relation = sign();
            if (relation != '<' && relation != '=' && relation != '>') {
                return false;
            }
            place++;
            int n = number();
            if (n < 0) {
                return false;
            }
            street.put(letter, relation, n);
            return true;
        }
    }

    /** What is told by hand: SEEN and the BOOK. */
    private static final class Notes {
        int seenCount;
        final int[] seenHouses = new int[MOST_SEEN];
        final int[] seenEarned = new int[MOST_SEEN];
        int bookCount;
        final int[] book = new int[MOST_BOOK];

        void takeFrom(Notes other) {
            seenCount = other.seenCount;
            System.arraycopy(other.seenHouses, 0, seenHouses, 0, MOST_SEEN);
            System.arraycopy(other.seenEarned, 0, seenEarned, 0, MOST_SEEN);
            bookCount = other.bookCount;
            System.arraycopy(other.book, 0, book, 0, MOST_BOOK);
        }

        int addSeen(int house, int n) {
            if (seenCount >= MOST_SEEN) {
                return FULL;
            }
            seenHouses[seenCount] = house;
            seenEarned[seenCount] = n;
            seenCount++;
            return seenCount;
        }

        int addBook(int n) {
            if (bookCount >= MOST_BOOK) {
                return FULL;
            }
            book[bookCount] = n;
            bookCount++;
            return bookCount;
        }
    }

    /** The bodies of ACTS. What runs a body begins to look for it at the KIND from. */
    private static final class Acts {
        int ran;
        final int[] bodies = new int[MOST_KEPT];
        private int kind;
        private int v;
        private int i;

        void clear() {
            ran = 0;
        }

        void choose(int houseKind, int houseV, int house) {
            kind = houseKind;
            v = houseV;
            i = house;
        }

        int perform(int act, int x) {
            switch (act) {
                case EARNS:
                    return runEarns(kind, x, 0);
                case SAYS:
                    return runSays(kind, x, 0);
                case TELLS:
                    return runTells(kind, x, 0);
                default:
                    return 0;
            }
        }

        private void begin(int body) {
            if (ran < MOST_KEPT) {
                bodies[ran] = body;
            }
            ran++;
        }

        private int runEarns(int from, int x, int depth) {
            if (depth > DEEPEST) {
                return 0;
            }
            switch (from) {
                case MEEK:
                    begin(30);
                    return runEarns(HOUSE, x * 3, depth + 1);
                case SAINT:
                    begin(50);
                    return -runEarns(PROUD, x, depth + 1);
                case TOLD:
                    begin(71);
                    return runEarns(WIDE, x, depth + 1) ^ v;
                case PROUD:
                case WIDE:
                    return runEarns(HOUSE, x, depth + 1);
                case LYING:
                    return runEarns(MEEK, x, depth + 1);
                default:
                    begin(10);
                    return x + i;
            }
        }

        private int runSays(int from, int x, int depth) {
            if (depth > DEEPEST) {
                return 0;
            }
            switch (from) {
                case PROUD:
                    begin(20);
                    return runSays(HOUSE, x, depth + 1) ^ 6;
                case SAINT:
                    begin(51);
                    return runSays(PROUD, x + 1, depth + 1);
                case TOLD:
                    begin(70);
                    return runSays(WIDE, x, depth + 1) + runEarns(WIDE, 2, depth + 1);
                case MEEK:
                case WIDE:
                    return runSays(HOUSE, x, depth + 1);
                case LYING:
                    return runSays(MEEK, x, depth + 1);
                default:
                    begin(11);
                    return runEarns(kind, x, depth + 1) - v;
            }
        }

        private int runTells(int from, int x, int depth) {
            if (depth > DEEPEST) {
                return 0;
            }
            switch (from) {
                case WIDE:
                    begin(40);
                    return runTells(HOUSE, x, depth + 1) + runSays(kind, 1, depth + 1);
                case LYING:
                    begin(60);
                    return runTells(MEEK, x - i, depth + 1);
                case PROUD:
                case MEEK:
                    return runTells(HOUSE, x, depth + 1);
                case SAINT:
                    return runTells(PROUD, x, depth + 1);
                case TOLD:
                    return runTells(WIDE, x, depth + 1);
                default:
                    begin(12);
                    return runSays(kind, x, depth + 1) * 2;
            }
        }
    }

    /** Nothing, or a row of items; items beyond its size do not matter. */
    private static final class Tape {
        int sort = HOLDS_NOTHING;
        int size;
        final long[] items = new long[MOST_ITEMS];

        void become(int newSort, int newSize) {
            sort = newSort;
            size = newSize;
            for (int i = 0; i < MOST_ITEMS; i++) {
                items[i] = 0;
            }
        }

        boolean reaches(int from, int n) {
            return from >= 0 && n >= 0 && n <= size && from <= size - n;
        }

        /** As much of v as an item has. */
        long fitted(long v) {
            switch (sort) {
                case BYTES:
                    return (byte) v;
                case SHORTS:
                    return (short) v;
                case INTS:
                    return (int) v;
                case BOOLEANS:
                    return v != 0 ? 1 : 0;
                default:
                    return v;
            }
        }
    }
}
