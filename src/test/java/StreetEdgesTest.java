/** The edges of promises 6 to 8: feed, street with what a STREET is and where its FAULT is, told. */
public final class StreetEdgesTest {
    public static void main(String[] args) {
        Checks.run(StreetEdgesTest.class);
        Checks.finish();
    }

    private static final String HUNDRED =
        "add 10 h=10|h=11|h=12|h=13|h=14|h=15|h=16|h=17|h=18|h=19|h=20|h=21|h=22|h=23|h=24|h=25|h=26|h=27|h=2";

    private static void fault(String text, int place) {
        MiddleThree x = new MiddleThree();
        Checks.due("the fault of \"" + text + "\"", Checks.street(x, text), -10 - place);
    }

    private static void reads(String text) {
        Checks.due("\"" + text + "\" is a street", Checks.street(new MiddleThree(), text), 0);
    }

    // ---- 6: A sign (0 .. 127) comes behind THE TEXT's: how many it has. BAD; FULL.

    static void p06_signBelow0() {
        MiddleThree x = new MiddleThree();
        Checks.due("sign -1", x.feed(-1), -2);
        Checks.due("least sign", x.feed(Integer.MIN_VALUE), -2);
        Checks.due("count(4)", x.count(4), 0);
    }

    static void p06_signAbove127() {
        MiddleThree x = new MiddleThree();
        Checks.due("sign 128", x.feed(128), -2);
        Checks.due("sign 256 + 'r'", x.feed(256 + 'r'), -2);
        Checks.due("greatest sign", x.feed(Integer.MAX_VALUE), -2);
        Checks.due("count(4)", x.count(4), 0);
    }

    static void p06_sign0And127() {
        MiddleThree x = new MiddleThree();
        Checks.due("sign 0", x.feed(0), 1);
        Checks.due("sign 127", x.feed(127), 2);
    }

    static void p06_howManyItHas() {
        MiddleThree x = new MiddleThree();
        for (int i = 1; i <= 100; i++) {
            Checks.due("sign by sign", x.feed('a'), i);
            Checks.due("count(4)", x.count(4), i);
        }
    }

    static void p06_fullAt100() {
        MiddleThree x = new MiddleThree();
        Checks.feed(x, "a".repeat(99));
        Checks.due("the 100th", x.feed('a'), 100);
        Checks.due("one more", x.feed('a'), -4);
        Checks.due("count(4)", x.count(4), 100);
    }

    static void p06_badAheadOfFull() {
        MiddleThree x = new MiddleThree();
        Checks.feed(x, "a".repeat(100));
        Checks.due("sign 128", x.feed(128), -2);
        Checks.due("sign -1", x.feed(-1), -2);
    }

    static void p06_aRefusedSignComesNot() {
        MiddleThree x = new MiddleThree();
        Checks.feed(x, "ro");
        x.feed(128);
        x.feed(-1);
        x.feed('w');
        Checks.due("row is a street", x.street(), 0);
        Checks.feed(x, HUNDRED + "|");
        Checks.due("101 signs, the last one is refused: a street", x.street(), 1);
    }

    // ---- 7: THE TEXT, which is empty then, is a STREET, and holds: its number.

    static void p07_theTextIsEmptyBehindAStreet() {
        MiddleThree x = new MiddleThree();
        Checks.street(x, "row");
        Checks.due("count(4)", x.count(4), 0);
        Checks.due("the next sign", x.feed('r'), 1);
    }

    static void p07_theTextIsEmptyBehindAFault() {
        MiddleThree x = new MiddleThree();
        Checks.due("a fault", Checks.street(x, "rox"), -12);
        Checks.due("count(4)", x.count(4), 0);
        Checks.due("a street", Checks.street(x, "row"), 0);
    }

    static void p07_sixStreetsAtMost() {
        MiddleThree x = new MiddleThree();
        for (int s = 0; s <= 5; s++) {
            Checks.due("street " + s, Checks.street(x, "row"), s);
        }
        Checks.due("a seventh", Checks.street(x, "ring"), -4);
        Checks.due("count(1)", x.count(1), 6);
        Checks.due("the sixth holds", x.told(1), 0);
    }

    private static MiddleThree sixStreets() {
        MiddleThree x = Checks.plain(10);
        for (int s = 0; s <= 5; s++) {
            Checks.street(x, "add " + s + " h=0");
        }
        return x;
    }

    static void p07_theTextStaysWhenFull() {
        MiddleThree x = sixStreets();
        Checks.due("full", Checks.street(x, "row"), -4);
        Checks.due("count(4)", x.count(4), 3);
        Checks.due("the next sign", x.feed(';'), 4);
    }

    static void p07_fullAheadOfAFault() {
        MiddleThree x = sixStreets();
        Checks.due("an empty text", x.street(), -4);
        Checks.due("a fault", Checks.street(x, "x"), -4);
        Checks.due("the sixth holds", x.of(0, 4), 15);
    }

    static void p07_aFaultTakesNoNumber() {
        MiddleThree x = new MiddleThree();
        Checks.street(x, "x");
        Checks.due("count(1)", x.count(1), 0);
        Checks.due("the first", Checks.street(x, "row"), 0);
        Checks.street(x, "x");
        Checks.due("count(1)", x.count(1), 1);
        Checks.due("the second", Checks.street(x, "row"), 1);
    }

    static void p07_theOneThatHeldHoldsBehindAFault() {
        MiddleThree x = Checks.plain(10, 20, 30);
        Checks.street(x, "ring;add 3 h=2");
        Checks.due("a fault behind row and an add", Checks.street(x, "row;add 9 h=2;"), -24);
        Checks.due("the ring", x.told(1), 1);
        Checks.nexts("the add", x, 20, 20, 23);
    }

    static void p07_nothingIsLeftOfFaultsAhead() {
        MiddleThree x = Checks.plain(10);
        for (int i = 0; i < 9; i++) {
            // 44 signs, and 9 tests each time
            Checks.due("a fault", Checks.street(x, "add 1 h=0|h=0|h=0|h=0|h=0&h=0&h=0&h=0&!h=0;"), -53);
        }
        Checks.due("a street", Checks.street(x, "tax 1 h=1;add 4 !h=1&e=1"), 0);
        Checks.due("its clauses alone", x.of(0, 4), 14);
        Checks.due("a row", x.told(1), 0);
    }

    static void p07_noneHoldsBehindAFaultAtFirst() {
        MiddleThree x = Checks.plain(10, 20, 30);
        Checks.due("a fault", Checks.street(x, "ring;add 9 h=2;"), -25);
        Checks.due("a row", x.told(1), 0);
        Checks.nexts("no add", x, 10, 20, 30);
    }

    static void p07_theNewestHolds() {
        MiddleThree x = Checks.plain(10);
        for (int s = 0; s <= 5; s++) {
            Checks.street(x, "add " + (s + 1) + " h=0");
            Checks.due("street " + s, x.of(0, 4), 11 + s);
        }
    }

    // ---- 7, what a STREET is: CLAUSES, 1 to 10, with ; between.

    static void p07_noClause() {
        fault("", 0);
    }

    static void p07_oneClause() {
        reads("row");
        reads("ring");
        reads("add 1 h=0");
        reads("tax 1 h=0");
    }

    static void p07_tenClauses() {
        reads("row;row;row;row;row;row;row;row;row;row");
        reads("add 1 h=1;".repeat(9) + "add 1 h=1");
        reads("tax 1 h=1;".repeat(9) + "ring");
        MiddleThree x = Checks.plain(10);
        Checks.street(x, "add 1 h=0;".repeat(9) + "add 2 h=0");
        Checks.due("all ten add", x.of(0, 4), 21);
    }

    static void p07_anEleventhClause() {
        fault("row;row;row;row;row;row;row;row;row;row;row", 39);
        fault("row;row;row;row;row;row;row;row;row;row;", 39);
        fault("ring;ring;ring;ring;ring;ring;ring;ring;ring;ring;add 1 h=0", 49);
        fault("add 1 h=1;".repeat(10), 99);
    }

    static void p07_semicolonsBetweenAlone() {
        fault(";", 0);
        fault(";row", 0);
        fault("row;", 4);
        fault("row;;row", 4);
        fault("row ;row", 3);
        fault("row; row", 4);
        fault("row,row", 3);
        fault("rowrow", 3);
        fault("add 1 h=0;", 10);
    }

    // ---- 7: add n E; tax n E; ring; row (one blank ahead of each part behind the word; n 1 or 2 digits).

    static void p07_words() {
        fault("x", 0);
        fault("R", 0);
        fault("Add 1 h=0", 0);
        fault("r", 1);
        fault("ra", 1);
        fault("ri", 2);
        fault("rio", 2);
        fault("rin", 3);
        fault("rind", 3);
        fault("ringg", 4);
        fault("ro", 2);
        fault("roe", 2);
        fault("rows", 3);
        fault("a", 1);
        fault("aax 1 h=0", 1);
        fault("ad", 2);
        fault("adx 1 h=0", 2);
        fault("add", 3);
        fault("t", 1);
        fault("tdd 1 h=0", 1);
        fault("ta", 2);
        fault("tad 1 h=0", 2);
        fault("tax", 3);
    }

    static void p07_oneBlankAheadOfN() {
        fault("add1 h=0", 3);
        fault("add  1 h=0", 4);
        fault("tax1 h=0", 3);
        fault("tax  1 h=0", 4);
        fault("add\t1 h=0", 3);
    }

    static void p07_oneBlankAheadOfE() {
        fault("add 1h=0", 5);
        fault("add 12h=0", 6);
        fault("add 1  h=0", 6);
        fault("tax 1(h=0)", 5);
    }

    static void p07_noOtherBlanks() {
        fault(" row", 0);
        fault("row ", 3);
        fault("ring 1", 4);
        fault("add 1 h=0 ", 9);
        fault("add 1 h =0", 7);
        fault("add 1 h= 0", 8);
        fault("add 1 h=0 |h=1", 9);
        fault("add 1 h=0| h=1", 10);
        fault("add 1 ( h=0)", 7);
        fault("add 1 (h=0 )", 10);
        fault("add 1 ! h=0", 7);
    }

    static void p07_n1Or2Digits() {
        reads("add 0 h=0");
        reads("add 9 h=0");
        reads("add 00 h=0");
        reads("add 99 h=0");
        reads("tax 0 h=0");
        reads("tax 10 h=0");
    }

    static void p07_nOfNoDigit() {
        fault("add ", 4);
        fault("add h=0", 4);
        fault("tax -1 h=0", 4);
        fault("add +1 h=0", 4);
        fault("add /1 h=0", 4);
        fault("add :1 h=0", 4);
    }

    static void p07_nOf3Digits() {
        fault("add 100 h=0", 6);
        fault("tax 001 h=0", 6);
    }

    static void p07_nAndEAreThere() {
        fault("add 1", 5);
        fault("add 12", 6);
        fault("add 1 ", 6);
        fault("add 1;row", 5);
        fault("tax 1 ;row", 6);
    }

    static void p07_nAsItIsTold() {
        MiddleThree x = Checks.plain(10);
        Checks.street(x, "add 07 h=0");
        Checks.due("07", x.of(0, 4), 17);
        Checks.street(x, "add 42 h=0");
        Checks.due("42", x.of(0, 4), 52);
        Checks.street(x, "add 0 h=0");
        Checks.due("0", x.of(0, 4), 10);
    }

    // ---- 7: a TEST: a letter, < or = or >, a number (1 or 2 digits).

    static void p07_letters() {
        for (int sign = 0; sign <= 127; sign++) {
            if ("hkveby".indexOf(sign) >= 0) {
                reads("add 1 " + (char) sign + "=0");
            } else if (sign == '(' || sign == '!') {
                fault("add 1 " + (char) sign + "=0", 7);
            } else {
                fault("add 1 " + (char) sign + "=0", 6);
            }
        }
    }

    static void p07_relations() {
        for (int sign = 0; sign <= 127; sign++) {
            if ("<=>".indexOf(sign) >= 0) {
                reads("add 1 h" + (char) sign + "0");
            } else {
                fault("add 1 h" + (char) sign + "0", 7);
            }
        }
        fault("add 1 h<=0", 8);
        fault("add 1 h==0", 8);
        fault("add 1 h<>0", 8);
    }

    static void p07_numbersOf1Or2Digits() {
        reads("add 1 h=0");
        reads("add 1 h=99");
        reads("add 1 h=00");
        fault("add 1 h=", 8);
        fault("add 1 h=x", 8);
        fault("add 1 h=-1", 8);
        fault("add 1 h=/", 8);
        fault("add 1 h=:", 8);
        fault("add 1 h=100", 10);
        fault("add 1 h=001", 10);
        fault("add 1 h", 7);
    }

    // ---- 7: E: T or T|E. T: F or F&T. F: !F, (E), or a TEST.

    static void p07_joins() {
        reads("add 1 h=0|h=1|h=2");
        reads("add 1 h=0&h=1&h=2");
        reads("add 1 h=0&h=1|h=2&h=3");
        fault("add 1 |h=0", 6);
        fault("add 1 &h=0", 6);
        fault("add 1 h=0|", 10);
        fault("add 1 h=0&", 10);
        fault("add 1 h=0||h=1", 10);
        fault("add 1 h=0&&h=1", 10);
        fault("add 1 h=0|&h=1", 10);
        fault("add 1 h=0h=1", 9);
        fault("add 1 h=0!h=1", 9);
        fault("add 1 h=0|;row", 10);
    }

    static void p07_parens() {
        reads("add 1 (h=0)");
        reads("add 1 (h=0|h=1&h=2)");
        fault("add 1 ()", 7);
        fault("add 1 (h=0", 10);
        fault("add 1 (h=0;row", 10);
        fault("add 1 h=0)", 9);
        fault("add 1 (h=0))", 11);
        fault("add 1 (h=0)(h=1)", 11);
        fault("add 1 )h=0", 6);
        fault("add 1 ((h=0)", 12);
    }

    static void p07_nots() {
        reads("add 1 !h=0");
        reads("add 1 !!h=0");
        reads("add 1 !(h=0)");
        fault("add 1 !", 7);
        fault("add 1 !)", 7);
        fault("add 1 !|h=0", 7);
        fault("add 1 !;row", 7);
    }

    // ---- 7: A ( or ! within 4 others is none.

    static void p07_within3Others() {
        reads("add 1 ((((h=0))))");
        reads("add 1 !!!!h=0");
        reads("add 1 !(!(h=0))");
        reads("add 1 (!(!h=0))");
    }

    static void p07_within4Others() {
        fault("add 1 (((((h=0)))))", 10);
        fault("add 1 !!!!!h=0", 10);
        fault("add 1 !(!((h=0)))", 10);
        fault("add 1 (!(!!h=0))", 10);
        fault("add 1 (!(!(h=0)))", 10);
        fault("add 1 !!!!(h=0)", 10);
        fault("add 1 ((((!h=0))))", 10);
    }

    static void p07_within4OthersBehindATest() {
        fault("add 1 ((((h=1&!h=2))))", 14);
        fault("add 1 ((((h=1|(h=2)))))", 14);
        reads("add 1 (((h=1&!h=2)))");
        fault("add 1 (((h=1&!(h=2))))", 14);
    }

    static void p07_besideOneAnotherIsNotWithin() {
        reads("add 1 ((((h=0))))&((((h=1))))|!!!!h=2");
        reads("add 1 (((h=0)&(h=1)))&(((!h=2|!h=3)))");
        reads("add 1 !!!!h=0;add 1 !!!!h=1");
        fault("add 1 ((((h=1))))&((((h=1&(h=1)))))", 26);
    }

    // ---- 7: The FAULT: the place of the first byte with which none begins so; the end, if it ends too early.

    static void p07_theFirstByte() {
        fault("xx", 0);
        fault("add 1 h?0;x", 7);
        fault("row;x;y", 4);
        fault("row\u0000", 3);
        fault("\u0000", 0);
        fault("\u007frow", 0);
        fault("row;ring;add 1 h=0&v=9;tax 2 q=1;zzz", 29);
    }

    static void p07_theEndIfItEndsTooEarly() {
        String text = "add 12 (h<1|!k=2)&v>30;tax 4 e=5;ring";
        // so long are those of its beginnings that are streets
        String whole = " 17 21 22 32 37 ";
        for (int size = 0; size <= text.length(); size++) {
            if (whole.contains(" " + size + " ")) {
                reads(text.substring(0, size));
            } else {
                fault(text.substring(0, size), size);
            }
        }
    }

    static void p07_hundredBytes() {
        Checks.due("its signs", HUNDRED.length(), 100);
        reads(HUNDRED);
        fault(HUNDRED.substring(0, 99), 99);
        fault(HUNDRED.substring(0, 99) + "|", 99);
        fault(HUNDRED.substring(0, 98) + "2|", 98);
        fault(HUNDRED.substring(0, 97) + "|||", 97);
    }

    static void p07_hundredBytesThatEndTooEarly() {
        fault(HUNDRED.substring(0, 96) + "&v>!", 99);
        fault(HUNDRED.substring(0, 95) + "&b=9|", 100);
    }

    // ---- 7: of a HOUSE h its number, k its KIND, v its number v, e what it EARNS by 10 (cut), b .., y ..

    /** Whether this TEST holds of a HOUSE, by what is added to it. */
    private static void holds(MiddleThree x, int house, String e, boolean want) {
        Checks.street(x, "row");
        int without = x.of(house, 4);
        Checks.street(x, "add 1 " + e);
        Checks.due(e + " of house " + house, x.of(house, 4) - without, want ? 1 : 0);
    }

    static void p07_hIsItsNumber() {
        MiddleThree x = Checks.plain(5, 5, 5, 5, 5, 5, 5);
        Checks.street(x, "add 1 h=0;add 2 h=1;add 3 h=2;add 4 h=3;add 5 h=4;add 6 h=5;add 7 h=6;add 50 h>6;add 50 h<0");
        Checks.nexts("by number", x, 6, 7, 8, 9, 10, 11, 12);
    }

    static void p07_kIsItsKind() {
        MiddleThree x = Checks.town(0, 0, 50, 1, 0, 50, 2, 0, 50, 3, 0, 50, 4, 0, 50, 5, 9, 50, 6, 0, 50);
        Checks.street(x, "add 1 k=0;add 2 k=1;add 3 k=2;add 4 k=3;add 5 k=4;add 6 k=5;add 7 k=6;add 40 k>6");
        Checks.nexts("by kind", x, 51, 52, 53, 54, 30, 56, 57);
    }

    static void p07_vIsItsNumberV() {
        MiddleThree x = Checks.town(0, 0, 5, 0, 9, 5, 0, 4, 5);
        Checks.street(x, "add 1 v=0;add 2 v=9;add 4 v=4;add 50 v>9;add 8 v<4");
        Checks.nexts("by v", x, 14, 7, 9);
    }

    static void p07_eIsWhatItEarnsBy10Cut() {
        int[][] due = {{0, 0}, {9, 0}, {10, 1}, {19, 1}, {20, 2}, {89, 8}, {90, 9}, {98, 9}};
        for (int[] pair : due) {
            MiddleThree x = Checks.plain(pair[0]);
            Checks.street(x, "add 1 e=" + pair[1]);
            Checks.due("earns " + pair[0], x.of(0, 4), pair[0] + 1);
        }
        MiddleThree x = Checks.plain(99);
        Checks.street(x, "tax 1 e=9");
        Checks.due("earns 99", x.of(0, 4), 98);
    }

    static void p07_bIsHowManyEarnMore() {
        MiddleThree x = Checks.plain(1, 2, 3, 4, 5, 6, 7);
        Checks.street(x, "add 10 b=0;add 20 b=1;add 30 b=2;add 40 b=3;add 50 b=4;add 60 b=5;add 70 b=6");
        Checks.nexts("0 to 6", x, 71, 62, 53, 44, 35, 26, 17);
    }

    static void p07_bAlikeOnesDoNotEarnMore() {
        MiddleThree x = Checks.plain(5, 5, 5, 9);
        Checks.street(x, "add 1 b=0;add 2 b=1;add 4 b=2;add 8 b=3");
        Checks.nexts("three alike, one more", x, 7, 7, 7, 10);
    }

    static void p07_yIsYearModulo10() {
        MiddleThree x = Checks.plain(5);
        Checks.street(x, "add 1 y=0;add 2 y=9;add 4 y>9");
        int[] due = {6, 5, 5, 5, 5, 5, 5, 5, 5, 7, 6, 5};
        for (int year = 0; year <= 11; year++) {
            x.earn(0, 5);
            Checks.due("year " + year, x.of(0, 4), due[year]);
            x.year();
        }
    }

    static void p07_lessEqualMore() {
        MiddleThree x = Checks.town(0, 5, 50);
        holds(x, 0, "v<5", false);
        holds(x, 0, "v<6", true);
        x = Checks.town(0, 5, 50);
        holds(x, 0, "v>5", false);
        holds(x, 0, "v>4", true);
        x = Checks.town(0, 5, 50);
        holds(x, 0, "v=5", true);
        holds(x, 0, "v=05", true);
        x = Checks.town(0, 5, 50);
        holds(x, 0, "v=50", false);
        holds(x, 0, "v<10", true);
    }

    static void p07_notHoldsOfOneFAlone() {
        MiddleThree x = Checks.plain(5);
        holds(x, 0, "!h=0&h=1", false);
        holds(x, 0, "!h=1|h=0", true);
        x = Checks.plain(5);
        holds(x, 0, "!(h=0&h=1)", true);
        holds(x, 0, "!h=1&h=1", false);
        x = Checks.plain(5);
        holds(x, 0, "!!h=0", true);
        holds(x, 0, "!!!!h=1", false);
    }

    static void p07_andAheadOfOr() {
        MiddleThree x = Checks.plain(5);
        holds(x, 0, "h=0|h=0&h=1", true);
        holds(x, 0, "h=1&h=0|h=0", true);
        x = Checks.plain(5);
        holds(x, 0, "(h=0|h=0)&h=1", false);
        holds(x, 0, "h=1&(h=0|h=0)", false);
    }

    static void p07_deepest() {
        MiddleThree x = Checks.plain(5);
        holds(x, 0, "h=1|h=0&(h=1|h=0&(h=1|h=0&(h=1|h=0&(h=1|h=0&h<1))))", true);
        holds(x, 0, "h=1|h=0&(h=1|h=0&(h=1|h=0&(h=1|h=0&(h=1|h=0&h>0))))", false);
        x = Checks.plain(5);
        holds(x, 0, "h=0|h=1&(h=0|h=1&(h=0|h=1&(h=0|h=1&(h=0|h=1&h>0))))", true);
        holds(x, 0, "h=0&!(h=0&!(h=0&h<1))", true);
    }

    // ---- 7: ADDS of a HOUSE: the n of all add whose E holds, together, less those of all tax.

    static void p07_addsTogetherLessTaxes() {
        MiddleThree x = Checks.plain(50);
        Checks.street(x, "add 7 h=0;tax 3 h=0;add 20 h=1;tax 30 h=1;add 1 h=0;tax 9 h=0");
        Checks.due("7 - 3 + 1 - 9", x.of(0, 4), 46);
    }

    static void p07_noneWhoseEHolds() {
        MiddleThree x = Checks.plain(50);
        Checks.street(x, "add 7 h=1;tax 3 h>0");
        Checks.due("none", x.of(0, 4), 50);
    }

    static void p07_withoutAStreetNoClauses() {
        Checks.due("none", Checks.plain(50).of(0, 4), 50);
    }

    static void p07_addsByHowAllWasAhead() {
        MiddleThree x = Checks.plain(10, 50, 30);
        Checks.street(x, "add 40 b=2;tax 40 b=0");
        x.year();
        // 10 and 40; the middle one 30 less 40; 30
        Checks.earned("by what all earned ahead", x, 50, 0, 30);
    }

    // ---- 8: What 0 YEAR, 1 whether it is a RING, 2 what all EARN, together. NONE.

    static void p08_whatBelow0() {
        Checks.due("what -1", new MiddleThree().told(-1), -1);
        Checks.due("least what", new MiddleThree().told(Integer.MIN_VALUE), -1);
    }

    static void p08_whatAbove2() {
        Checks.due("what 3", new MiddleThree().told(3), -1);
        Checks.due("greatest what", new MiddleThree().told(Integer.MAX_VALUE), -1);
    }

    static void p08_aRowWithoutAStreet() {
        Checks.due("told(1)", new MiddleThree().told(1), 0);
    }

    static void p08_aRowIfNoClauseTells() {
        MiddleThree x = new MiddleThree();
        Checks.street(x, "ring");
        Checks.street(x, "add 1 h=0");
        Checks.due("told(1)", x.told(1), 0);
    }

    static void p08_theLastOneOfRingAndRow() {
        MiddleThree x = new MiddleThree();
        Checks.street(x, "ring");
        Checks.due("ring", x.told(1), 1);
        Checks.street(x, "ring;row");
        Checks.due("ring;row", x.told(1), 0);
        Checks.street(x, "row;ring");
        Checks.due("row;ring", x.told(1), 1);
        Checks.street(x, "ring;row;add 1 h=0;ring;tax 1 h=0");
        Checks.due("ring, others behind it", x.told(1), 1);
        Checks.street(x, "row;ring;row;ring;row");
        Checks.due("row last", x.told(1), 0);
    }

    static void p08_allEarnTogether() {
        Checks.due("none", new MiddleThree().told(2), 0);
        Checks.due("one", Checks.plain(7).told(2), 7);
        Checks.due("seven", Checks.plain(99, 99, 99, 99, 99, 99, 99).told(2), 693);
    }

    static void p08_theYear() {
        MiddleThree x = new MiddleThree();
        for (int year = 0; year <= 20; year++) {
            Checks.due("year " + year, x.told(0), year);
            x.year();
        }
    }
}
