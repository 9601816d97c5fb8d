/** The edges of promises 18 to 21: before, see, lied, wed. */
public final class SeenEdgesTest {
    public static void main(String[] args) {
        Checks.run(SeenEdgesTest.class);
        Checks.finish();
    }

    private static MiddleThree with(String text, int... earned) {
        MiddleThree x = Checks.plain(earned);
        Checks.due(text, Checks.street(x, text), 0);
        return x;
    }

    /** A year goes, and then they earn this. */
    private static MiddleThree year1(MiddleThree x, int... earned) {
        x.year();
        for (int h = 0; h < earned.length; h++) {
            x.earn(h, earned[h]);
        }
        return x;
    }

    private static void rows(MiddleThree x, int count, int... first) {
        Checks.due("rows", x.before(-1), count);
        for (int h = 0; h < first.length; h++) {
            Checks.due("the first row, house " + h, x.before(h), first[h]);
        }
    }

    // ---- 18: BEFORE: what -1 how many, else what that HOUSE EARNED (-5). NONE: what; -9; -8.

    static void p18_whatBelowMinus1() {
        Checks.due("what -2", year1(Checks.plain(5)).before(-2), -1);
        Checks.due("least what", year1(Checks.plain(5)).before(Integer.MIN_VALUE), -1);
    }

    static void p18_houseBeyondTheLast() {
        Checks.due("house 1 of one", year1(Checks.plain(5)).before(1), -1);
        Checks.due("house 0 of none", year1(new MiddleThree()).before(0), -1);
        Checks.due("greatest what", year1(Checks.plain(5)).before(Integer.MAX_VALUE), -1);
        Checks.due("house 3 of four", year1(Checks.plain(1, 1, 1, 1)).before(3), 1);
        Checks.due("house 4 of four", year1(Checks.plain(1, 1, 1, 1)).before(4), -1);
    }

    static void p18_fourAtMost() {
        Checks.due("four", year1(Checks.plain(1, 1, 1, 1)).before(-1), 1);
        Checks.due("five", year1(Checks.plain(1, 1, 1, 1, 1)).before(-1), -9);
        Checks.due("five, the last one", year1(Checks.plain(1, 1, 1, 1, 1)).before(4), -9);
        Checks.due("seven", year1(Checks.plain(1, 1, 1, 1, 1, 1, 1)).before(-1), -9);
    }

    static void p18_year0() {
        Checks.due("how many", Checks.plain(5).before(-1), -8);
        Checks.due("which", Checks.plain(5).before(0), -8);
        Checks.due("no house", new MiddleThree().before(-1), -8);
        Checks.due("year 1", year1(Checks.plain(5)).before(-1), 1);
    }

    static void p18_noneAheadOfFive() {
        Checks.due("house 5 of five", year1(Checks.plain(1, 1, 1, 1, 1)).before(5), -1);
        Checks.due("what -2", year1(Checks.plain(1, 1, 1, 1, 1)).before(-2), -1);
    }

    static void p18_noneAheadOfYear0() {
        Checks.due("house 1 of one", Checks.plain(5).before(1), -1);
    }

    static void p18_fiveAheadOfYear0() {
        Checks.due("five in year 0", Checks.plain(1, 1, 1, 1, 1).before(-1), -9);
    }

    static void p18_withoutHouses() {
        rows(year1(new MiddleThree()), 1);
    }

    static void p18_noRow() {
        // a proud one of v 9 can't earn 40
        MiddleThree x = year1(Checks.town(1, 9, 45, 0, 0, 3), 40, 3);
        rows(x, 0, -5, -5);
    }

    static void p18_theFirstAsARowWhatIsLessFirst() {
        MiddleThree x = year1(Checks.town(1, 9, 45, 0, 0, 3));
        rows(x, 2, 3, 3);
    }

    static void p18_theFirstByHouses() {
        // the middle one comes to 20 by 20 20 45 and by 45 20 20; by others it would not, or have 50 more
        MiddleThree x = Checks.town(1, 9, 45, 0, 0, 20, 1, 9, 45);
        Checks.street(x, "add 50 h=1&b=0");
        year1(x, 45, 20, 45);
        rows(x, 2, 20, 20, 45);
    }

    static void p18_allRowsOfFour() {
        // whatever all earned, they come to 45, 40, 35, 30
        MiddleThree x = Checks.town(1, 9, 0, 1, 9, 0, 1, 9, 0, 1, 9, 0);
        Checks.street(x, "tax 5 h>0;tax 5 h>1;tax 5 h>2");
        x.year();
        Checks.earned("year 1", x, 45, 40, 35, 30);
        rows(x, 256, 30, 30, 30, 30);
    }

    static void p18_alikeOnesCountOnce() {
        rows(year1(Checks.plain(5, 5, 5)), 1, 5, 5, 5);
        // each of the first two 5 or 10, not 5 or 10 or 10
        rows(year1(Checks.town(1, 2, 9, 1, 2, 9, 1, 1, 5), 10, 10, 5), 4, 5, 5, 5);
    }

    static void p18_eachWhatSomeHouseEarnsNow() {
        MiddleThree x = with("add 1 h=0", 5, 6);
        x.year();
        Checks.earned("year 1", x, 6, 6);
        rows(x, 0, -5, -5);
        x.earn(1, 5);
        rows(x, 1, 5, 5);
    }

    static void p18_what0And99() {
        rows(year1(Checks.plain(0, 99)), 1, 0, 99);
    }

    static void p18_byTheYearAgo() {
        MiddleThree x = with("add 1 y=0", 5, 4);
        x.year();
        Checks.earned("year 1", x, 6, 5);
        x.earn(0, 5);
        x.earn(1, 5);
        rows(x, 0, -5, -5);
        x = with("add 1 y=1", 5, 4);
        x.year();
        rows(x, 1, 5, 4);
    }

    static void p18_whoLiedAYearAgo() {
        MiddleThree x = Checks.town(0, 0, 9, 0, 0, 5, 5, 0, 9);
        x.year();
        Checks.earned("year 1", x, 9, 5, 9);
        rows(x, 1, 9, 5, 9);
    }

    static void p18_byTheStreetThatHolds() {
        MiddleThree x = with("add 1 h=0", 5, 6);
        x.year();
        Checks.due("none by that", x.before(-1), 0);
        Checks.street(x, "row");
        rows(x, 1, 6, 6);
    }

    // ---- 19: how many there are (house -1: none then, 0, whatever the other is). NONE; BAD: n (0 .. 99); FULL: 8.

    static void p19_houseMinus1() {
        for (int n : new int[] {0, -1, 100, Integer.MIN_VALUE, Integer.MAX_VALUE}) {
            MiddleThree x = Checks.plain(5);
            x.see(0, 5);
            x.see(0, 6);
            Checks.due("none then", x.see(-1, n), 0);
            Checks.due("count(2)", x.count(2), 0);
            Checks.due("nothing is otherwise", x.lied(1), 1);
        }
        Checks.due("without houses", new MiddleThree().see(-1, 0), 0);
    }

    static void p19_houseMinus1WhenFull() {
        MiddleThree x = Checks.full();
        Checks.due("none then", x.see(-1, 0), 0);
        Checks.due("the first again", x.see(0, 5), 1);
    }

    static void p19_houseBelowMinus1() {
        Checks.due("house -2", Checks.plain(5).see(-2, 5), -1);
        Checks.due("least house", Checks.plain(5).see(Integer.MIN_VALUE, 5), -1);
    }

    static void p19_houseBeyondTheLast() {
        Checks.due("house 0 of none", new MiddleThree().see(0, 5), -1);
        Checks.due("house 1 of one", Checks.plain(5).see(1, 5), -1);
        Checks.due("greatest house", Checks.plain(5).see(Integer.MAX_VALUE, 5), -1);
        Checks.due("house 6 of seven", Checks.plain(1, 1, 1, 1, 1, 1, 1).see(6, 5), 1);
        Checks.due("house 7 of seven", Checks.plain(1, 1, 1, 1, 1, 1, 1).see(7, 5), -1);
    }

    static void p19_nBelow0() {
        Checks.due("n -1", Checks.plain(5).see(0, -1), -2);
        Checks.due("least n", Checks.plain(5).see(0, Integer.MIN_VALUE), -2);
    }

    static void p19_nAbove99() {
        Checks.due("n 100", Checks.plain(5).see(0, 100), -2);
        Checks.due("greatest n", Checks.plain(5).see(0, Integer.MAX_VALUE), -2);
    }

    static void p19_n0And99() {
        MiddleThree x = Checks.plain(0, 99);
        Checks.due("0", x.see(0, 0), 1);
        Checks.due("99", x.see(1, 99), 2);
        Checks.due("both are so", x.lied(1), 1);
    }

    static void p19_fullAt8() {
        MiddleThree x = Checks.plain(5);
        for (int i = 1; i <= 8; i++) {
            Checks.due("seen", x.see(0, 5), i);
        }
        Checks.due("a ninth", x.see(0, 6), -4);
        Checks.due("count(2)", x.count(2), 8);
        Checks.due("all eight are so", x.lied(1), 1);
    }

    static void p19_noneAheadOfBad() {
        Checks.due("house 1 of one, n 100", Checks.plain(5).see(1, 100), -1);
    }

    static void p19_noneAheadOfFull() {
        Checks.due("house 7", Checks.full().see(7, 5), -1);
        Checks.due("house -2", Checks.full().see(-2, 5), -1);
    }

    static void p19_badAheadOfFull() {
        Checks.due("n 100", Checks.full().see(0, 100), -2);
        Checks.due("n -1", Checks.full().see(0, -1), -2);
    }

    // ---- 20: LIED, as bits (what 0); TRUE: 1, 0 (1). NONE.

    static void p20_whatBelow0() {
        Checks.due("what -1", Checks.plain(5).lied(-1), -1);
        Checks.due("least what", Checks.plain(5).lied(Integer.MIN_VALUE), -1);
    }

    static void p20_whatAbove1() {
        Checks.due("what 2", Checks.plain(5).lied(2), -1);
        Checks.due("greatest what", Checks.plain(5).lied(Integer.MAX_VALUE), -1);
    }

    static void p20_withoutHouses() {
        Checks.due("lied", new MiddleThree().lied(0), 0);
        Checks.due("true", new MiddleThree().lied(1), 1);
        Checks.due("none all the same", new MiddleThree().lied(2), -1);
    }

    static void p20_nothingSeen() {
        Checks.due("lied: one", Checks.plain(5).lied(0), 1);
        Checks.due("lied: all of seven", Checks.plain(1, 2, 3, 4, 5, 6, 7).lied(0), 127);
        Checks.due("true", Checks.plain(1, 2, 3).lied(1), 1);
    }

    static void p20_asBits() {
        // by a first or a third that said 0 house 1 comes to the other
        MiddleThree x = Checks.plain(30, 20, 10);
        x.see(1, 10);
        Checks.due("house 0", x.lied(0), 1);
        x = Checks.plain(10, 20, 30);
        x.see(1, 10);
        Checks.due("house 2", x.lied(0), 4);
        x = Checks.plain(10, 90, 30, 1, 1, 1, 1);
        x.see(1, 30);
        Checks.due("all but house 2", x.lied(0), 127 - 4);
        x = Checks.plain(1, 1, 1, 1, 40, 70, 50);
        x.see(5, 40);
        Checks.due("house 6 alone; without it 50", x.lied(0), 64);
    }

    static void p20_said0() {
        MiddleThree x = Checks.plain(9, 0, 5);
        x.see(1, 0);
        Checks.due("not 1 or more: the middle one of 0, 0 and 5 or 9", x.lied(0), 5);
        x = Checks.town(3, 0, 5, 0, 0, 7);
        Checks.street(x, "add 1 h=0");
        x.see(0, 1);
        Checks.due("not below 0: the lesser of 5 and 0, and 1 more", x.lied(0), 2);
    }

    static void p20_itself() {
        MiddleThree x = Checks.plain(30, 20, 40);
        x.see(1, 30);
        Checks.due("what it says is nothing to itself", x.lied(0), 2);
    }

    static void p20_allOfSeen() {
        MiddleThree x = Checks.plain(10, 20, 30, 40, 50);
        for (int i = 0; i < 7; i++) {
            x.see(0, 10);
        }
        Checks.due("seven are so", x.lied(1), 1);
        Checks.due("seven are so, whoever lied", x.lied(0), 31);
        x.see(0, 11);
        Checks.due("the eighth is not", x.lied(1), 0);
        Checks.due("the eighth is not, whoever lied", x.lied(0), 0);
    }

    static void p20_oneThatIsSeenTwice() {
        MiddleThree x = Checks.plain(10, 20, 30);
        x.see(1, 20);
        x.see(1, 10);
        Checks.due("lied", x.lied(0), 0);
        Checks.due("true", x.lied(1), 0);
    }

    static void p20_behindOneYear() {
        MiddleThree x = with("add 7 y=0;add 50 y=1", 10);
        x.see(0, 17);
        Checks.due("true", x.lied(1), 1);
        Checks.due("lied", x.lied(0), 1);
    }

    static void p20_allSayWhatTheyEarnThoughALyingOneWouldNot() {
        MiddleThree x = Checks.town(0, 0, 40, 0, 0, 30, 5, 0, 50);
        x.see(1, 40);
        Checks.due("true", x.lied(1), 1);
        Checks.due("lied: house 1, which hears both", x.lied(0), 2);
    }

    static void p20_truthIsNotLied() {
        MiddleThree x = Checks.plain(30, 20, 10);
        x.see(1, 20);
        Checks.due("true", x.lied(1), 1);
        x.see(-1, 0);
        x.see(1, 10);
        Checks.due("not true", x.lied(1), 0);
    }

    // ---- 21: WEDDING. NONE; BAD: one HOUSE.

    static void p21_houseBelow0() {
        Checks.due("one -1", Checks.plain(5, 9).wed(-1, 1), -1);
        Checks.due("other -1", Checks.plain(5, 9).wed(1, -1), -1);
        Checks.due("least", Checks.plain(5, 9).wed(Integer.MIN_VALUE, Integer.MIN_VALUE), -1);
    }

    static void p21_houseBeyondTheLast() {
        Checks.due("one 2", Checks.plain(5, 9).wed(2, 1), -1);
        Checks.due("other 2", Checks.plain(5, 9).wed(1, 2), -1);
        Checks.due("without houses", new MiddleThree().wed(0, 1), -1);
        Checks.due("5 and 6 of seven", Checks.plain(1, 1, 1, 1, 1, 1, 1).wed(5, 6), 0);
        Checks.due("6 and 7 of seven", Checks.plain(1, 1, 1, 1, 1, 1, 1).wed(6, 7), -1);
    }

    static void p21_oneHouse() {
        Checks.due("0 and 0", Checks.plain(5, 9).wed(0, 0), -2);
        Checks.due("1 and 1", Checks.plain(5, 9).wed(1, 1), -2);
    }

    static void p21_noneAheadOfBad() {
        Checks.due("2 and 2", Checks.plain(5, 9).wed(2, 2), -1);
        Checks.due("-1 and -1", Checks.plain(5, 9).wed(-1, -1), -1);
    }

    static void p21_theHalfCut() {
        Checks.due("10 and 21", Checks.plain(10, 21).wed(0, 1), 2);
        Checks.due("15 and 16", Checks.plain(15, 16).wed(0, 1), 1);
        Checks.due("16 and 15", Checks.plain(16, 15).wed(0, 1), 1);
        Checks.due("0 and 1", Checks.plain(0, 1).wed(0, 1), 1);
        Checks.due("99 and 99", Checks.plain(99, 99).wed(0, 1), 0);
        Checks.due("99 and 98", Checks.plain(99, 98).wed(0, 1), 1);
    }

    static void p21_theHalfOfWhatBothEarnTogether() {
        Checks.due("7 and 7", Checks.plain(7, 7).wed(0, 1), 0);
        Checks.due("7 and 9: both 8", Checks.plain(7, 9).wed(0, 1), 2);
        Checks.due("7 and 8: both 7", Checks.plain(7, 8).wed(0, 1), 1);
    }

    static void p21_theseToo() {
        Checks.due("these alone", Checks.plain(10, 20).wed(0, 1), 2);
        Checks.due("others too", Checks.plain(1, 20, 9).wed(0, 2), 3);
    }

    static void p21_thanWithoutThat() {
        // house 2 earns something else than now, but not than without the wedding
        Checks.due("both as they were", with("add 1 h=2", 10, 10, 5).wed(0, 1), 0);
        Checks.due("what they come to anyhow", with("add 50 h<2&y=0;add 50 h<2&y=1", 10, 20).wed(0, 1), 0);
    }

    static void p21_behind10Years() {
        // 99 stays without; with 88 it comes to 98 behind 10 years, and to 99 behind 11
        Checks.due("not 11", with("add 1 h<2", 99, 77).wed(0, 1), 2);
        // as above with 89: 99 behind 10 years, and 98 behind 9
        Checks.due("not 9", with("add 1 h=0", 99, 79).wed(0, 1), 1);
    }
}
