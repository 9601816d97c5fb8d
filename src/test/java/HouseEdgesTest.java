/** The edges of promises 1 to 5, but for SAYS and NEXT: a new object, house, of, earn, row. */
public final class HouseEdgesTest {
    public static void main(String[] args) {
        Checks.run(HouseEdgesTest.class);
        Checks.finish();
    }

    // ---- 1: No HOUSES, no STREET.

    static void p01_noHouses() {
        MiddleThree x = new MiddleThree();
        Checks.due("count(0)", x.count(0), 0);
        Checks.due("of(0, 0)", x.of(0, 0), -1);
        Checks.due("told(2)", x.told(2), 0);
    }

    static void p01_noStreet() {
        MiddleThree x = new MiddleThree();
        Checks.due("count(1)", x.count(1), 0);
        Checks.due("told(1): a row", x.told(1), 0);
        x.house(0, 0, 40);
        Checks.due("no clause adds", x.of(0, 4), 40);
        Checks.due("the first street's number", Checks.street(x, "row"), 0);
    }

    static void p01_yearIs0AtFirst() {
        MiddleThree x = new MiddleThree();
        Checks.due("told(0)", x.told(0), 0);
        Checks.due("the first year", x.year(), 1);
    }

    static void p01_theTextIsEmptyAtFirst() {
        MiddleThree x = new MiddleThree();
        Checks.due("count(4)", x.count(4), 0);
        Checks.due("the first sign", x.feed('r'), 1);
    }

    static void p01_nothingSeenNoBookNoTraceNoImage() {
        MiddleThree x = new MiddleThree();
        Checks.due("count(2)", x.count(2), 0);
        Checks.due("count(3)", x.count(3), 0);
        Checks.due("count(5)", x.count(5), 0);
        Checks.due("trace(0)", x.trace(0), -1);
        Checks.due("undo()", x.undo(), -3);
    }

    static void p01_tapesHoldNothingAtFirst() {
        MiddleThree x = new MiddleThree();
        for (int tape = 0; tape <= 5; tape++) {
            Checks.due("item of tape " + tape, x.item(tape, 0, 1), -11);
            Checks.due("read of tape " + tape, x.read(tape, 0), Checks.NO);
        }
    }

    static void p01_constants() {
        Checks.due("NONE", MiddleThree.NONE, -1);
        Checks.due("BAD", MiddleThree.BAD, -2);
        Checks.due("STATE", MiddleThree.STATE, -3);
        Checks.due("FULL", MiddleThree.FULL, -4);
        Checks.due("NO", MiddleThree.NO, Long.MIN_VALUE);
    }

    static void p01_objectsShareNothing() {
        MiddleThree x = Checks.rich();
        String before = Checks.state(x);
        MiddleThree other = new MiddleThree();
        Checks.same("a new one beside it", Checks.state(other), Checks.state(new MiddleThree()));
        other.house(1, 1, 1);
        Checks.street(other, "row;tax 9 h=0");
        other.see(0, 1);
        other.book(1);
        other.tape(0, 3, 9);
        other.image();
        other.act(0, 0, 0);
        other.year();
        Checks.same("the one beside it goes on", Checks.state(x), before);
    }

    // ---- 2: A HOUSE: its number. NONE: kind; BAD: v, earns; FULL: 7.

    static void p02_numbers0To6AsTheyCome() {
        MiddleThree x = new MiddleThree();
        for (int h = 0; h <= 6; h++) {
            Checks.due("house " + h, x.house(0, h, 10 * h), h);
        }
        for (int h = 0; h <= 6; h++) {
            Checks.due("v of house " + h, x.of(h, 1), h);
            Checks.due("what house " + h + " earns", x.of(h, 2), 10 * h);
        }
    }

    static void p02_fullAt7() {
        MiddleThree x = Checks.plain(1, 1, 1, 1, 1, 1);
        Checks.due("a seventh", x.house(0, 0, 1), 6);
        Checks.due("an eighth", x.house(0, 0, 1), -4);
        Checks.due("a ninth", x.house(6, 9, 99), -4);
        Checks.due("count(0)", x.count(0), 7);
    }

    static void p02_kindBelow0() {
        Checks.due("kind -1", new MiddleThree().house(-1, 0, 0), -1);
        Checks.due("least kind", new MiddleThree().house(Integer.MIN_VALUE, 0, 0), -1);
    }

    static void p02_kindAbove6() {
        Checks.due("kind 7", new MiddleThree().house(7, 0, 0), -1);
        Checks.due("greatest kind", new MiddleThree().house(Integer.MAX_VALUE, 0, 0), -1);
    }

    static void p02_kinds0To6() {
        for (int kind = 0; kind <= 6; kind++) {
            MiddleThree x = new MiddleThree();
            Checks.due("kind " + kind, x.house(kind, 0, 0), 0);
            Checks.due("kind " + kind, x.of(0, 0), kind);
        }
    }

    static void p02_vBelow0() {
        Checks.due("v -1", new MiddleThree().house(0, -1, 0), -2);
        Checks.due("least v", new MiddleThree().house(0, Integer.MIN_VALUE, 0), -2);
    }

    static void p02_vAbove9() {
        Checks.due("v 10", new MiddleThree().house(0, 10, 0), -2);
        Checks.due("greatest v", new MiddleThree().house(0, Integer.MAX_VALUE, 0), -2);
    }

    static void p02_v0And9() {
        MiddleThree x = Checks.town(0, 0, 5, 0, 9, 5);
        Checks.due("v 0", x.of(0, 1), 0);
        Checks.due("v 9", x.of(1, 1), 9);
    }

    static void p02_earnsBelow0() {
        Checks.due("earns -1", new MiddleThree().house(0, 0, -1), -2);
        Checks.due("least earns", new MiddleThree().house(0, 0, Integer.MIN_VALUE), -2);
    }

    static void p02_earnsAbove99() {
        Checks.due("earns 100", new MiddleThree().house(0, 0, 100), -2);
        Checks.due("greatest earns", new MiddleThree().house(0, 0, Integer.MAX_VALUE), -2);
    }

    static void p02_earns0And99() {
        MiddleThree x = Checks.town(0, 0, 0, 0, 0, 99);
        Checks.earned("bounds", x, 0, 99);
    }

    static void p02_noneAheadOfBad() {
        Checks.due("kind 7, v 10", new MiddleThree().house(7, 10, 0), -1);
        Checks.due("kind -1, earns 100", new MiddleThree().house(-1, 0, 100), -1);
    }

    static void p02_noneAheadOfFull() {
        Checks.due("kind 7, an eighth", Checks.plain(1, 1, 1, 1, 1, 1, 1).house(7, 0, 0), -1);
    }

    static void p02_badAheadOfFull() {
        Checks.due("v 10, an eighth", Checks.plain(1, 1, 1, 1, 1, 1, 1).house(0, 10, 0), -2);
        Checks.due("earns 100, an eighth", Checks.plain(1, 1, 1, 1, 1, 1, 1).house(0, 0, 100), -2);
    }

    static void p02_aRefusedOneTakesNoNumber() {
        MiddleThree x = new MiddleThree();
        x.house(7, 0, 0);
        x.house(0, 10, 0);
        x.house(0, 0, 100);
        Checks.due("count(0)", x.count(0), 0);
        Checks.due("house", x.house(0, 0, 0), 0);
    }

    // ---- 3: Of a HOUSE what 0 .. 4. NONE.

    static void p03_houseBelow0() {
        Checks.due("house -1", Checks.plain(5).of(-1, 0), -1);
        Checks.due("least house", Checks.plain(5).of(Integer.MIN_VALUE, 2), -1);
    }

    static void p03_houseBeyondTheLast() {
        Checks.due("house 0 of none", new MiddleThree().of(0, 2), -1);
        Checks.due("house 1 of one", Checks.plain(5).of(1, 2), -1);
        MiddleThree x = Checks.plain(1, 2, 3, 4, 5, 6, 7);
        Checks.due("house 6 of seven", x.of(6, 2), 7);
        Checks.due("house 7 of seven", x.of(7, 2), -1);
    }

    static void p03_whatBelow0() {
        Checks.due("what -1", Checks.plain(5).of(0, -1), -1);
        Checks.due("least what", Checks.plain(5).of(0, Integer.MIN_VALUE), -1);
    }

    static void p03_whatAbove4() {
        Checks.due("what 5", Checks.plain(5).of(0, 5), -1);
        Checks.due("greatest what", Checks.plain(5).of(0, Integer.MAX_VALUE), -1);
    }

    static void p03_what0To4() {
        // year 0 is a multiple of 6, so this saint comes to the half
        MiddleThree x = Checks.town(4, 4, 61);
        int[] due = {4, 4, 61, 61, 30};
        for (int what = 0; what <= 4; what++) {
            Checks.due("what " + what, x.of(0, what), due[what]);
        }
    }

    // ---- 4: What a HOUSE EARNS becomes n (0 .. 99): what it was. NONE; BAD.

    static void p04_houseBelow0() {
        Checks.due("house -1", Checks.plain(5).earn(-1, 6), -1);
        Checks.due("least house", Checks.plain(5).earn(Integer.MIN_VALUE, 6), -1);
    }

    static void p04_houseBeyondTheLast() {
        Checks.due("house 0 of none", new MiddleThree().earn(0, 6), -1);
        Checks.due("house 1 of one", Checks.plain(5).earn(1, 6), -1);
        MiddleThree x = Checks.plain(1, 2, 3, 4, 5, 6, 7);
        Checks.due("house 6 of seven", x.earn(6, 8), 7);
        Checks.due("house 7 of seven", x.earn(7, 8), -1);
    }

    static void p04_nBelow0() {
        MiddleThree x = Checks.plain(5);
        Checks.due("n -1", x.earn(0, -1), -2);
        Checks.due("least n", x.earn(0, Integer.MIN_VALUE), -2);
        Checks.earned("as before", x, 5);
    }

    static void p04_nAbove99() {
        MiddleThree x = Checks.plain(5);
        Checks.due("n 100", x.earn(0, 100), -2);
        Checks.due("greatest n", x.earn(0, Integer.MAX_VALUE), -2);
        Checks.earned("as before", x, 5);
    }

    static void p04_n0And99() {
        MiddleThree x = Checks.plain(5);
        Checks.due("n 0", x.earn(0, 0), 5);
        Checks.earned("0", x, 0);
        Checks.due("n 99", x.earn(0, 99), 0);
        Checks.earned("99", x, 99);
    }

    static void p04_whatItWas() {
        MiddleThree x = Checks.plain(5, 6);
        Checks.due("another", x.earn(1, 7), 6);
        Checks.due("the same", x.earn(1, 7), 7);
        Checks.earned("that one alone", x, 5, 7);
    }

    static void p04_noneAheadOfBad() {
        Checks.due("house 1 of one, n 100", Checks.plain(5).earn(1, 100), -1);
    }

    // ---- 5: The ROW of a TOLD one becomes n for YEARS modulo 4 being part: what it was.

    static void p05_houseBelow0() {
        Checks.due("house -1", Checks.town(6, 0, 5).row(-1, 0, 0), -1);
        Checks.due("least house", Checks.town(6, 0, 5).row(Integer.MIN_VALUE, 0, 0), -1);
    }

    static void p05_houseBeyondTheLast() {
        Checks.due("house 0 of none", new MiddleThree().row(0, 0, 0), -1);
        Checks.due("house 1 of one", Checks.town(6, 0, 5).row(1, 0, 0), -1);
        MiddleThree x = Checks.town(6, 0, 5, 6, 0, 5, 6, 0, 5, 6, 0, 5, 6, 0, 5, 6, 0, 5, 6, 0, 5);
        Checks.due("house 6 of seven", x.row(6, 3, 4), 0);
        Checks.due("house 6 of seven", x.row(6, 3, 1), 4);
        Checks.due("house 7 of seven", x.row(7, 0, 0), -1);
    }

    static void p05_partBelow0() {
        Checks.due("part -1", Checks.town(6, 0, 5).row(0, -1, 0), -1);
        Checks.due("least part", Checks.town(6, 0, 5).row(0, Integer.MIN_VALUE, 0), -1);
    }

    static void p05_partAbove3() {
        MiddleThree x = Checks.town(6, 0, 5, 6, 0, 5);
        Checks.due("part 4", x.row(0, 4, 1), -1);
        Checks.due("greatest part", x.row(0, Integer.MAX_VALUE, 1), -1);
        Checks.due("the next one's first", x.row(1, 0, 1), 0);
    }

    static void p05_nBelow0() {
        MiddleThree x = Checks.town(6, 0, 5);
        Checks.due("n -1", x.row(0, 0, -1), -2);
        Checks.due("least n", x.row(0, 0, Integer.MIN_VALUE), -2);
        Checks.due("as before", x.row(0, 0, 1), 0);
    }

    static void p05_nAbove4() {
        MiddleThree x = Checks.town(6, 0, 5);
        Checks.due("n 5", x.row(0, 0, 5), -2);
        Checks.due("greatest n", x.row(0, 0, Integer.MAX_VALUE), -2);
        Checks.due("as before", x.row(0, 0, 1), 0);
    }

    static void p05_fourNumbers0AtFirst() {
        MiddleThree x = Checks.town(6, 0, 5);
        for (int part = 0; part <= 3; part++) {
            Checks.due("part " + part, x.row(0, part, 4 - part), 0);
        }
        for (int part = 0; part <= 3; part++) {
            Checks.due("part " + part, x.row(0, part, 0), 4 - part);
        }
    }

    static void p05_numbers0To4() {
        MiddleThree x = Checks.town(6, 0, 5);
        int was = 0;
        for (int n = 4; n >= 0; n--) {
            Checks.due("n " + n, x.row(0, 2, n), was);
            was = n;
        }
    }

    static void p05_anotherKind() {
        for (int kind = 0; kind <= 5; kind++) {
            MiddleThree x = Checks.town(kind, 0, 5);
            Checks.due("kind " + kind, x.row(0, 0, 0), -3);
            Checks.due("kind " + kind, x.row(0, 3, 4), -3);
        }
    }

    static void p05_noneAheadOfBad() {
        Checks.due("house 1 of one, n 5", Checks.town(6, 0, 5).row(1, 0, 5), -1);
        Checks.due("part 4, n -1", Checks.town(6, 0, 5).row(0, 4, -1), -1);
    }

    static void p05_noneAheadOfState() {
        Checks.due("part 4 of a plain one", Checks.plain(5).row(0, 4, 0), -1);
        Checks.due("part -1 of a plain one", Checks.plain(5).row(0, -1, 0), -1);
    }

    static void p05_badAheadOfState() {
        Checks.due("n 5 of a plain one", Checks.plain(5).row(0, 0, 5), -2);
    }
}
