/** Promises 1 to 8: a new object, house, of, earn, row, feed, street, told. */
public final class HousesTest {
    public static void main(String[] args) {
        Checks.run(HousesTest.class);
        Checks.finish();
    }

    static void p01_newObject() {
        MiddleThree x = new MiddleThree();
        for (int what = 0; what <= 5; what++) {
            Checks.due("new: count(" + what + ")", x.count(what), 0);
        }
        for (int what = 0; what <= 2; what++) {
            Checks.due("new: told(" + what + ")", x.told(what), 0);
        }
        for (int tape = 0; tape <= 5; tape++) {
            Checks.due("new: item", x.item(tape, 0, 1), -11);
        }
        Checks.due("new: of", x.of(0, 0), -1);
        Checks.due("new: undo", x.undo(), -3);
        Checks.due("new: trace", x.trace(0), -1);
        Checks.due("NONE", MiddleThree.NONE, -1);
        Checks.due("BAD", MiddleThree.BAD, -2);
        Checks.due("STATE", MiddleThree.STATE, -3);
        Checks.due("FULL", MiddleThree.FULL, -4);
        Checks.due("NO", MiddleThree.NO, Long.MIN_VALUE);
        MiddleThree other = Checks.plain(1, 2);
        x = new MiddleThree();
        Checks.due("objects share nothing", x.count(0), 0);
        Checks.due("objects share nothing", other.count(0), 2);
    }

    static void p02_house() {
        MiddleThree x = new MiddleThree();
        Checks.due("house kind -1", x.house(-1, 0, 0), -1);
        Checks.due("house kind 7", x.house(7, 0, 0), -1);
        Checks.due("house v -1", x.house(0, -1, 0), -2);
        Checks.due("house v 10", x.house(0, 10, 0), -2);
        Checks.due("house earns -1", x.house(0, 0, -1), -2);
        Checks.due("house earns 100", x.house(0, 0, 100), -2);
        Checks.due("house kind ahead of v", x.house(7, 10, 100), -1);
        Checks.due("house: none came", x.count(0), 0);
        for (int h = 0; h < 7; h++) {
            Checks.due("house " + h, x.house(h, h == 0 ? 0 : h + 3, h == 0 ? 0 : 93 + h), h);
        }
        Checks.due("house full", x.house(0, 0, 0), -4);
        Checks.due("house bad ahead of full", x.house(0, 10, 0), -2);
        Checks.due("house none ahead of full", x.house(7, 0, 0), -1);
        Checks.due("house: 7", x.count(0), 7);
        for (int h = 0; h < 7; h++) {
            Checks.due("of kind", x.of(h, 0), h);
            Checks.due("of v", x.of(h, 1), h == 0 ? 0 : h + 3);
            Checks.due("of earns", x.of(h, 2), h == 0 ? 0 : 93 + h);
        }
    }

    static void p03_ofAnswers() {
        MiddleThree x = Checks.plain(5);
        Checks.due("of: house -1", x.of(-1, 0), -1);
        Checks.due("of: house 1", x.of(1, 0), -1);
        Checks.due("of: what -1", x.of(0, -1), -1);
        Checks.due("of: what 5", x.of(0, 5), -1);
        Checks.due("of: changes nothing", x.of(0, 4), 5);
        Checks.due("of: year stays", x.told(0), 0);
        Checks.due("of: earns as before", x.of(0, 2), 5);
    }

    static void p03_ofPlain() {
        Checks.nexts("one", Checks.plain(5), 5);
        Checks.nexts("two", Checks.plain(5, 9), 5, 9);
        Checks.nexts("row, its own is the least", Checks.plain(3, 1, 9), 3, 3, 9);
        Checks.nexts("row, its own is the middle", Checks.plain(3, 7, 9), 3, 7, 9);
        Checks.nexts("row, its own is the most", Checks.plain(9, 50, 3), 9, 9, 3);
        Checks.nexts("row, all alike", Checks.plain(4, 4, 4), 4, 4, 4);
        MiddleThree ring = Checks.plain(1, 2, 3);
        Checks.street(ring, "ring");
        Checks.nexts("ring of three", ring, 2, 2, 2);
        ring = Checks.plain(1, 50, 60, 9);
        Checks.street(ring, "ring");
        Checks.nexts("ring of four", ring, 9, 50, 50, 9);
        ring = Checks.plain(1, 50);
        Checks.street(ring, "ring");
        Checks.nexts("ring of two: the other one is but one", ring, 1, 50);
        ring = Checks.plain(7);
        Checks.street(ring, "ring");
        Checks.nexts("ring of one", ring, 7);
    }

    static void p03_ofKinds() {
        Checks.nexts("proud: 5 times v at least", Checks.town(1, 9, 3), 45);
        Checks.nexts("proud: more than that", Checks.town(1, 9, 46), 46);
        Checks.nexts("proud of 0", Checks.town(1, 0, 0), 0);
        Checks.nexts("proud between", Checks.town(0, 0, 10, 1, 3, 90, 0, 0, 20), 10, 20, 20);
        Checks.nexts("proud between, v", Checks.town(0, 0, 10, 1, 5, 90, 0, 0, 20), 10, 25, 20);
        Checks.nexts("meek: no more than it earns", Checks.town(0, 0, 10, 2, 9, 3, 0, 0, 20), 10, 3, 20);
        Checks.nexts("meek: less", Checks.town(0, 0, 10, 2, 0, 90, 0, 0, 20), 10, 20, 20);
        Checks.nexts("lying: no more than it earns", Checks.town(0, 0, 10, 5, 9, 3, 0, 0, 20), 10, 3, 20);
        Checks.nexts("lying: less", Checks.town(0, 0, 10, 5, 9, 90, 0, 0, 20), 10, 20, 20);
    }

    static void p03_ofWide() {
        Checks.nexts("wide alone", Checks.town(3, 0, 8), 8);
        Checks.nexts("two wide: the lesser", Checks.town(3, 0, 8, 3, 0, 5), 5, 5);
        Checks.nexts("wide at the end of three", Checks.town(3, 0, 1, 0, 0, 50, 0, 0, 9), 9, 9, 9);
        Checks.nexts("wide beside the end of four", Checks.town(0, 0, 7, 3, 0, 1, 0, 0, 9, 0, 0, 8), 7, 7, 8, 8);
        MiddleThree x = Checks.town(0, 0, 11, 0, 0, 2, 3, 0, 40, 0, 0, 6, 0, 0, 9, 0, 0, 99);
        Checks.due("wide sees 2 places, not 3", x.of(2, 4), 9);
        x = Checks.town(3, 0, 50, 0, 0, 10, 0, 0, 30, 0, 0, 99, 0, 0, 20, 0, 0, 40);
        Checks.due("wide at the end of a row", x.of(0, 4), 30);
        Checks.street(x, "ring");
        Checks.due("wide in a ring of six", x.of(0, 4), 30);
        x.earn(4, 35);
        Checks.due("wide in a ring of six", x.of(0, 4), 35);
        x = Checks.town(3, 0, 50, 0, 0, 60, 0, 0, 70, 0, 0, 80);
        Checks.street(x, "ring");
        Checks.due("wide in a ring of four: the one over there counts once", x.of(0, 4), 60);
        x = Checks.town(3, 0, 50, 0, 0, 90, 0, 0, 90);
        Checks.street(x, "ring");
        Checks.due("wide in a ring of three", x.of(0, 4), 90);
        x = Checks.town(3, 0, 50, 0, 0, 40);
        Checks.street(x, "ring");
        Checks.due("wide in a ring of two", x.of(0, 4), 40);
        x = Checks.town(3, 0, 50, 5, 0, 60, 0, 0, 70);
        Checks.due("wide hears what others say", x.of(0, 4), 50);
    }

    static void p03_ofSaint() {
        MiddleThree x = Checks.town(4, 1, 91);
        Checks.nexts("saint: the half, cut, in year 0", x, 45);
        Checks.years(x, 1);
        Checks.nexts("saint: year 1 is no multiple of 3", x, 45);
        Checks.years(x, 2);
        Checks.nexts("saint: year 3", x, 22);
        x = Checks.town(4, 9, 7);
        Checks.nexts("saint: as proud, then the half", x, 22);
        Checks.years(x, 1);
        Checks.nexts("saint: as proud", x, 45);
        Checks.years(x, 9);
        Checks.nexts("saint: year 10 is no multiple of 11", x, 45);
        Checks.years(x, 1);
        Checks.nexts("saint: year 11", x, 22);
        x = Checks.town(4, 0, 80);
        Checks.years(x, 1);
        Checks.nexts("saint of 0: year 1", x, 40);
        Checks.years(x, 1);
        Checks.nexts("saint of 0: year 2", x, 20);
    }

    static void p03_ofLying() {
        MiddleThree x = Checks.town(0, 0, 40, 0, 0, 30, 5, 0, 50);
        Checks.due("lying says 0", x.of(2, 3), 0);
        Checks.due("others say what they earn", x.of(1, 3), 30);
        Checks.nexts("by what is said", x, 40, 30, 50);
        Checks.years(x, 1);
        Checks.due("says what it earns in year 1", x.of(2, 3), 50);
        Checks.nexts("by what is said", x, 40, 40, 50);
        Checks.years(x, 8);
        Checks.due("says 0 in year 9", x.of(2, 3), 0);
        x = Checks.town(5, 9, 50);
        for (int year = 0; year < 20; year++) {
            Checks.due("v 9 never lies", x.of(0, 3), 50);
            x.year();
        }
        x = Checks.town(0, 0, 60, 5, 0, 50, 0, 0, 70);
        Checks.nexts("a lying one knows what it earns", x, 60, 50, 70);
    }

    static void p03_ofTold() {
        MiddleThree x = Checks.town(0, 0, 30, 0, 0, 10, 6, 0, 20, 0, 0, 50, 0, 0, 40);
        int[] sorted = {10, 20, 30, 40, 50};
        for (int n = 0; n <= 4; n++) {
            x.row(2, 0, n);
            Checks.due("told to take " + n, x.of(2, 4), sorted[n]);
        }
        x = Checks.town(6, 0, 20, 0, 0, 10);
        Checks.due("told, at first 0", x.of(0, 4), 10);
        x.row(0, 0, 1);
        Checks.due("told 1 of two", x.of(0, 4), 20);
        x.row(0, 0, 4);
        Checks.due("told 4 of two: the last one", x.of(0, 4), 20);
        x.row(0, 1, 0);
        x.row(0, 2, 0);
        x.row(0, 3, 1);
        int[] due = {20, 10, 10, 20};
        for (int year = 0; year < 8; year++) {
            x.earn(0, 20);
            Checks.due("told by year " + year, x.of(0, 4), due[year % 4]);
            x.year();
        }
    }

    static void p04_earn() {
        MiddleThree x = Checks.plain(5, 6);
        Checks.due("earn", x.earn(1, 0), 6);
        Checks.due("earn", x.earn(1, 99), 0);
        Checks.due("earn: what it was", x.earn(1, 7), 99);
        Checks.due("earn: house -1", x.earn(-1, 7), -1);
        Checks.due("earn: house 2", x.earn(2, 7), -1);
        Checks.due("earn: n -1", x.earn(0, -1), -2);
        Checks.due("earn: n 100", x.earn(0, 100), -2);
        Checks.due("earn: none ahead of bad", x.earn(2, 100), -1);
        Checks.earned("earn", x, 5, 7);
    }

    static void p05_row() {
        MiddleThree x = Checks.town(3, 0, 5, 6, 0, 5);
        Checks.due("row", x.row(1, 3, 4), 0);
        Checks.due("row: what it was", x.row(1, 3, 2), 4);
        Checks.due("row: another part", x.row(1, 0, 1), 0);
        Checks.due("row: what it was", x.row(1, 3, 0), 2);
        Checks.due("row: house -1", x.row(-1, 0, 0), -1);
        Checks.due("row: house 2", x.row(2, 0, 0), -1);
        Checks.due("row: part -1", x.row(1, -1, 0), -1);
        Checks.due("row: part 4", x.row(1, 4, 0), -1);
        Checks.due("row: n -1", x.row(1, 0, -1), -2);
        Checks.due("row: n 5", x.row(1, 0, 5), -2);
        Checks.due("row: another kind", x.row(0, 0, 4), -3);
        Checks.due("row: none ahead of bad", x.row(1, 4, 5), -1);
        Checks.due("row: bad ahead of state", x.row(0, 0, 5), -2);
        Checks.due("row: as it was", x.row(1, 0, 1), 1);
    }

    static void p06_feed() {
        MiddleThree x = new MiddleThree();
        Checks.due("feed -1", x.feed(-1), -2);
        Checks.due("feed 128", x.feed(128), -2);
        Checks.due("feed 0", x.feed(0), 1);
        Checks.due("feed 127", x.feed(127), 2);
        for (int i = 3; i <= 100; i++) {
            Checks.due("feed", x.feed('a'), i);
        }
        Checks.due("feed full", x.feed('a'), -4);
        Checks.due("feed bad ahead of full", x.feed(128), -2);
        Checks.due("feed: 100 kept", x.count(4), 100);
        Checks.due("feed: sign 0 is a sign", x.street(), -10);
        Checks.due("feed: empty again", x.feed('a'), 1);
    }

    private static void fault(String text, int place) {
        MiddleThree x = new MiddleThree();
        Checks.due("fault of \"" + text + "\"", Checks.street(x, text), -10 - place);
        Checks.due("no street by it", x.count(1), 0);
        Checks.due("the text is empty", x.count(4), 0);
    }

    static void p07_faults() {
        fault("", 0);
        fault("x", 0);
        fault(" ring", 0);
        fault(";ring", 0);
        fault("r", 1);
        fault("ri", 2);
        fault("rin", 3);
        fault("rio", 2);
        fault("ra", 1);
        fault("ro", 2);
        fault("roe", 2);
        fault("ring ", 4);
        fault("rows", 3);
        fault("row;", 4);
        fault("row;;row", 4);
        fault("a", 1);
        fault("ad", 2);
        fault("add", 3);
        fault("at", 1);
        fault("adx", 2);
        fault("addd", 3);
        fault("add ", 4);
        fault("add  ", 4);
        fault("add x", 4);
        fault("add 1", 5);
        fault("add 12", 6);
        fault("add 123", 6);
        fault("add 1;", 5);
        fault("add -1", 4);
        fault("add 1 ", 6);
        fault("add 1  h=1", 6);
        fault("add 1 q=1", 6);
        fault("add 1 H=1", 6);
        fault("add 1 1", 6);
        fault("add 1 h", 7);
        fault("add 1 h!", 7);
        fault("add 1 h =1", 7);
        fault("add 1 h=", 8);
        fault("add 1 h==", 8);
        fault("add 1 h=x", 8);
        fault("add 1 h=123", 10);
        fault("add 1 h=1)", 9);
        fault("add 1 h=1 ", 9);
        fault("add 1 h=1&", 10);
        fault("add 1 h=1|", 10);
        fault("add 1 h=1&|", 10);
        fault("add 1 h=1&&", 10);
        fault("add 1 (h=1", 10);
        fault("add 1 (h=1;", 10);
        fault("add 1 ()", 7);
        fault("add 1 !", 7);
        fault("add 1 !)", 7);
        fault("add 1 (h=1)(", 11);
        fault("t", 1);
        fault("tab", 2);
        fault("tax", 3);
        fault("tax 1 h=1;add", 13);
        fault("add 1 (((((h=1)))))", 10);
        fault("add 1 !!!!!h=1", 10);
        fault("add 1 !(!((h=1)))", 10);
        fault("add 1 (!(!(h=1)))", 10);
        fault("add 1 ((((h=1&!h=2))))", 14);
        fault("add 1 ((((h=1))))&((((h=1&(h=1)))))", 26);
        fault("row;row;row;row;row;row;row;row;row;row;row", 39);
        fault("row;row;row;row;row;row;row;row;row;row;", 39);
        fault("row;row;row;row;row;row;row;row;row;ro", 38);
        fault("add 1 e=1\u007f", 9);
        String hundred = "add 1 h=10|h=11|h=12|h=13|h=14|h=15|h=16|h=17|h=18|h=19|h=20|h=21|h=22|h=23|h=24|h=25|h=26|h=27|h=2|";
        Checks.due("a text of 100 signs", hundred.length(), 100);
        fault(hundred, 100);
    }

    private static void reads(String text) {
        Checks.due("\"" + text + "\" is a street", Checks.street(new MiddleThree(), text), 0);
    }

    static void p07_streets() {
        reads("ring");
        reads("row");
        reads("ring;row;ring");
        reads("add 0 h=0");
        reads("add 00 h=00");
        reads("tax 99 h<99");
        reads("add 1 h=1;tax 1 k>1;row");
        reads("add 1 ((((h=1))))");
        reads("add 1 !!!!h=1");
        reads("add 1 !(!(h=1))&!(!(h=1))|((((h=1))))");
        reads("add 1 v=1&e=1|b=1&y=1");
        reads("row;row;row;row;row;row;row;row;row;row");
        reads("add 1 h=10|h=11|h=12|h=13|h=14|h=15|h=16|h=17|h=18|h=19|h=20|h=21|h=22|h=23|h=24|h=25|h=26|h=27|h=2");
        MiddleThree x = Checks.plain(10);
        for (int s = 0; s < 6; s++) {
            Checks.due("a fault between", Checks.street(x, "add 50 h=0;x"), -21);
            Checks.due("street", Checks.street(x, "add " + (s + 1) + " h=0"), s);
            Checks.due("the text is empty", x.count(4), 0);
            Checks.due("the newest holds", x.of(0, 4), 11 + s);
            Checks.due("streets", x.count(1), s + 1);
        }
        Checks.feed(x, "row");
        Checks.due("street: full", x.street(), -4);
        Checks.due("the text stays", x.count(4), 3);
        Checks.due("full ahead of a fault", Checks.street(x, "x"), -4);
        Checks.due("the text stays", x.count(4), 4);
        Checks.due("the one that held holds", x.of(0, 4), 16);
        x = Checks.plain(10);
        for (int i = 0; i < 30; i++) {
            Checks.due("many faults", Checks.street(x, "add 1 h=0|h=0|h=0|h=0|h=0&h=0&h=0&h=0&!h=0;"), -53);
        }
        Checks.due("a street behind many faults", Checks.street(x, "tax 1 h=1;add 4 !h=1&e=1"), 0);
        Checks.due("its clauses alone", x.of(0, 4), 14);
        x = Checks.plain(10, 20, 30);
        Checks.due("street", Checks.street(x, "ring;add 3 h=2"), 0);
        Checks.due("fault", Checks.street(x, "row;add 9 h=2;"), -24);
        Checks.due("a fault leaves the ring", x.told(1), 1);
        Checks.due("a fault leaves the clauses", x.of(2, 4), 23);
    }

    /** What house 1 of a fixed town adds by this E. */
    private static void holds(String e, boolean want) {
        // number 1, kind 1, v 3, earns 47, one earns more, year 12
        MiddleThree x = Checks.town(0, 0, 50, 1, 3, 47, 0, 0, 47);
        Checks.years(x, 12);
        Checks.earned("constant", x, 50, 47, 47);
        Checks.due("street", Checks.street(x, "add 2 " + e), 0);
        Checks.due("add 2 " + e, x.of(1, 4), want ? 49 : 47);
    }

    static void p07_clauses() {
        for (String test : new String[] {"h=1", "h<2", "h>0", "k=1", "k<2", "k>0", "v=3", "v<4", "v>2", "e=4", "e<5",
            "e>3", "b=1", "b<2", "b>0", "y=2", "y<3", "y>1", "h<99", "h=01", "e=04", "h>00"}) {
            holds(test, true);
            holds("!" + test, false);
        }
        for (String test : new String[] {"h=2", "h<1", "h>1", "k=0", "k<1", "k>1", "v=2", "v<3", "v>3", "e=47", "e<4",
            "e>4", "b=2", "b<1", "b>1", "y=12", "y<2", "y>2", "h=10", "h=11"}) {
            holds(test, false);
            holds("!" + test, true);
        }
        String yes = "h=1";
        String no = "h=0";
        holds(yes + "&" + yes, true);
        holds(yes + "&" + no, false);
        holds(no + "&" + yes, false);
        holds(no + "|" + yes, true);
        holds(yes + "|" + no, true);
        holds(no + "|" + no, false);
        holds(yes + "|" + yes + "&" + no, true);
        holds(no + "&" + yes + "|" + yes, true);
        holds("(" + yes + "|" + yes + ")&" + no, false);
        holds("!(" + yes + "&" + no + ")", true);
        holds("!" + no + "&" + no, false);
        holds("!!" + yes, true);
        holds("!(!(" + no + "))", false);
        holds(no + "|" + no + "|" + yes + "&" + yes + "&" + yes, true);
        holds(yes + "&(" + no + "|" + yes + "&(" + no + "|!(" + no + "|" + no + ")))", true);
        MiddleThree x = Checks.plain(10, 50);
        Checks.street(x, "add 7 h=0;tax 3 h<2;add 90 h=1;add 1 e>0");
        Checks.nexts("all add, less all tax; 99 at most", x, 15, 99);
        Checks.street(x, "tax 99 h=0;add 5 h=1;tax 6 h=1");
        Checks.nexts("0 at least", x, 0, 49);
        Checks.street(x, "add 60 h=1;tax 60 h=1");
        Checks.nexts("bounded only behind all", x, 10, 50);
        x = Checks.plain(10);
        Checks.due("ten clauses", Checks.street(x, "add 1 h=0;".repeat(9) + "add 2 h=0"), 0);
        Checks.nexts("ten clauses", x, 21);
        x = Checks.plain(10, 50, 30);
        Checks.street(x, "add 1 b=0;add 2 b=1;add 4 b=2");
        Checks.nexts("all by how all was", x, 14, 31, 32);
        x = Checks.town(4, 0, 80, 1, 9, 0);
        Checks.street(x, "add 5 h<2");
        Checks.nexts("adds come behind the half and the pride", x, 45, 50);
    }

    static void p08_told() {
        MiddleThree x = Checks.plain(10, 20, 33);
        Checks.due("told -1", x.told(-1), -1);
        Checks.due("told 3", x.told(3), -1);
        Checks.due("told all", x.told(2), 63);
        Checks.years(x, 3);
        Checks.due("told year", x.told(0), 3);
        Checks.due("told: a row without a street", x.told(1), 0);
        Checks.street(x, "ring");
        Checks.due("told: ring", x.told(1), 1);
        Checks.street(x, "ring;row");
        Checks.due("told: the last one is row", x.told(1), 0);
        Checks.street(x, "row;add 1 h=0;ring;tax 1 h=0");
        Checks.due("told: the last one is ring", x.told(1), 1);
        Checks.street(x, "add 1 h=0");
        Checks.due("told: neither", x.told(1), 0);
    }
}
