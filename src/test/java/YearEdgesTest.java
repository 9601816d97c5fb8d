/** The edges of promises 9 to 12: year, at, stays, swings. */
public final class YearEdgesTest {
    public static void main(String[] args) {
        Checks.run(YearEdgesTest.class);
        Checks.finish();
    }

    private static MiddleThree with(String text, int... earned) {
        MiddleThree x = Checks.plain(earned);
        Checks.due(text, Checks.street(x, text), 0);
        return x;
    }

    /** More calls than are promised, as no fewer come to this year: they have to be right in this class all the same. */
    private static MiddleThree inYear999(String text) {
        MiddleThree x = with(text, 10);
        for (int year = 1; year <= 998; year++) {
            x.year();
        }
        Checks.due("the last year", x.year(), 999);
        return x;
    }

    // ---- 9: A YEAR goes: YEAR. STATE: it is 999.

    static void p09_yearIs1More() {
        MiddleThree x = new MiddleThree();
        for (int year = 1; year <= 30; year++) {
            Checks.due("year()", x.year(), year);
            Checks.due("told(0)", x.told(0), year);
        }
    }

    static void p09_allByHowAllWasAhead() {
        MiddleThree x = with("ring", 1, 9, 1, 9);
        x.year();
        Checks.earned("all at once", x, 9, 1, 9, 1);
    }

    static void p09_byTheYearAhead() {
        MiddleThree x = with("add 10 y=0;tax 3 y=1", 10);
        x.year();
        Checks.earned("by year 0", x, 20);
        x.year();
        Checks.earned("by year 1", x, 17);
        x.year();
        Checks.earned("by year 2", x, 17);
    }

    static void p09_eachHouseEarnsItsNext() {
        MiddleThree x = Checks.rich();
        int[] due = {x.of(0, 4), x.of(1, 4), x.of(2, 4), x.of(3, 4)};
        x.year();
        Checks.earned("next", x, due);
    }

    static void p09_year999IsTheLast() {
        MiddleThree x = inYear999("row");
        Checks.due("year()", x.year(), -3);
        Checks.due("told(0)", x.told(0), 999);
    }

    static void p09_nothingIsEarnedBehindYear999() {
        MiddleThree x = inYear999("row");
        Checks.street(x, "add 1 h=0");
        x.year();
        Checks.earned("as before", x, 10);
    }

    // ---- 10: AT of n YEARS (0 .. 60): what 0 .. 6 that HOUSE, 10 all. NONE; BAD: n.

    static void p10_nBelow0() {
        Checks.due("n -1", Checks.plain(5).at(-1, 0), -2);
        Checks.due("n -1, all", Checks.plain(5).at(-1, 10), -2);
        Checks.due("least n", Checks.plain(5).at(Integer.MIN_VALUE, 0), -2);
    }

    static void p10_nAbove60() {
        Checks.due("n 61", Checks.plain(5).at(61, 0), -2);
        Checks.due("n 61, all", Checks.plain(5).at(61, 10), -2);
        Checks.due("greatest n", Checks.plain(5).at(Integer.MAX_VALUE, 0), -2);
    }

    static void p10_n0() {
        MiddleThree x = with("add 1 h=0", 10, 20);
        Checks.due("house 0", x.at(0, 0), 10);
        Checks.due("all", x.at(0, 10), 30);
    }

    static void p10_n60() {
        MiddleThree x = with("add 1 h=0", 10, 20);
        Checks.due("house 0", x.at(60, 0), 70);
        Checks.due("all", x.at(60, 10), 90);
        Checks.due("59", x.at(59, 0), 69);
    }

    static void p10_houseBelow0() {
        Checks.due("what -1", Checks.plain(5).at(0, -1), -1);
        Checks.due("least what", Checks.plain(5).at(0, Integer.MIN_VALUE), -1);
    }

    static void p10_houseBeyondTheLast() {
        Checks.due("house 1 of one", Checks.plain(5).at(0, 1), -1);
        Checks.due("house 0 of none", new MiddleThree().at(0, 0), -1);
        MiddleThree x = Checks.plain(1, 2, 3, 4, 5, 6, 7);
        Checks.due("house 6 of seven", x.at(0, 6), 7);
        Checks.due("house 7 of seven", x.at(0, 7), -1);
    }

    static void p10_what7To9And11() {
        MiddleThree x = Checks.plain(1, 2, 3, 4, 5, 6, 7);
        for (int what : new int[] {7, 8, 9, 11, Integer.MAX_VALUE}) {
            Checks.due("what " + what, x.at(0, what), -1);
        }
    }

    static void p10_allWithoutHouses() {
        Checks.due("0 years", new MiddleThree().at(0, 10), 0);
        Checks.due("60 years", new MiddleThree().at(60, 10), 0);
    }

    static void p10_noneAheadOfBad() {
        Checks.due("house 1 of one, n 61", Checks.plain(5).at(61, 1), -1);
        Checks.due("what 11, n -1", Checks.plain(5).at(-1, 11), -1);
    }

    static void p10_goesOnFromHowAllIs() {
        MiddleThree x = with("add 1 y=3", 10);
        x.year();
        Checks.due("year 3 has not gone", x.at(2, 0), 10);
        Checks.due("year 3 has gone", x.at(3, 0), 11);
        Checks.due("year 13 has not gone", x.at(12, 0), 11);
        Checks.due("year 13 has gone", x.at(13, 0), 12);
    }

    static void p10_yearsAlsoBeyond999() {
        MiddleThree x = inYear999("row");
        Checks.street(x, "add 1 y=0;add 10 y=9;add 30 y=2");
        Checks.due("year 999 is none of 0", x.at(1, 0), 20);
        Checks.due("year 1000", x.at(2, 0), 21);
        Checks.due("year 1001", x.at(3, 0), 21);
        Checks.due("year 1002", x.at(4, 0), 51);
        Checks.due("year 1000 and all up to 1010", x.at(12, 0), 62);
    }

    // ---- 11: STAYS: the fewest YEARS (0 .. 60) behind which the next YEAR changes nothing (-5: none).

    static void p11_withoutHouses() {
        Checks.due("no house", new MiddleThree().stays(), 0);
    }

    static void p11_behind0() {
        Checks.due("stays", Checks.plain(5, 6).stays(), 0);
    }

    static void p11_behind1() {
        Checks.due("stays", Checks.plain(1, 9, 1, 9).stays(), 1);
    }

    static void p11_behind60() {
        Checks.due("59", with("add 1 h=0", 40).stays(), 59);
        Checks.due("60", with("add 1 h=0", 39).stays(), 60);
    }

    static void p11_behind61IsNone() {
        Checks.due("61", with("add 1 h=0", 38).stays(), -5);
        Checks.due("never", with("ring", 1, 9, 1, 9).stays(), -5);
    }

    static void p11_theNextYearAlone() {
        MiddleThree x = with("add 1 y=3", 10);
        Checks.due("year 0", x.stays(), 0);
        Checks.years(x, 3);
        Checks.due("year 3", x.stays(), 1);
    }

    static void p11_anyHouseThatChanges() {
        Checks.due("the last of three", with("add 1 h=2", 5, 5, 90).stays(), 9);
        Checks.due("the first of three", with("add 1 h=0", 90, 5, 5).stays(), 9);
    }

    // ---- 12: SWINGS: the fewest YEARS (1 .. 20) such that, 40 YEARS from now on, all EARN the same so many later.

    static void p12_withoutHouses() {
        Checks.due("no house", new MiddleThree().swings(), 1);
    }

    static void p12_by1() {
        Checks.due("all stays", Checks.plain(1, 9, 1, 9).swings(), 1);
    }

    static void p12_by2() {
        Checks.due("to and fro", with("ring", 1, 9, 1, 9).swings(), 2);
    }

    static void p12_by20() {
        // they come to their halves behind years that are multiples of 4 and of 10: both behind 40 and behind 60
        MiddleThree x = Checks.town(4, 2, 0, 4, 8, 0);
        x.year();
        Checks.due("20", x.swings(), 20);
    }

    static void p12_by21IsNone() {
        // multiples of 3 and of 7: both behind year 42, which is the 40th from now on, and behind 63
        MiddleThree x = Checks.town(4, 1, 5, 4, 5, 25);
        Checks.years(x, 3);
        Checks.due("21", x.swings(), -5);
    }

    static void p12_never() {
        Checks.due("more each year", with("add 1 h=0", 0).swings(), -5);
    }

    static void p12_40YearsFromNowOn() {
        Checks.due("99 behind 40 years", with("add 1 h=0", 59).swings(), 1);
        Checks.due("99 behind 41 years", with("add 1 h=0", 58).swings(), -5);
    }

    static void p12_all() {
        MiddleThree one = Checks.town(4, 0, 10);
        Checks.street(one, "add 40 h<2");
        Checks.due("by years modulo 2", one.swings(), 2);
        MiddleThree other = Checks.town(4, 1, 10);
        Checks.street(other, "add 40 h<2");
        Checks.due("by years modulo 3", other.swings(), 3);
        MiddleThree both = Checks.town(4, 0, 10, 4, 1, 10);
        Checks.street(both, "add 40 h<2");
        Checks.due("both", both.swings(), 6);
    }

    static void p12_fewest() {
        MiddleThree x = with("add 3 y=5;tax 3 y=9", 0);
        Checks.years(x, 5);
        // behind 45, 46 .. years: 0 3 3 3 3 0
        Checks.due("5, not 10", x.swings(), 5);
    }
}
