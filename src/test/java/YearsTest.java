/** Promises 9 to 12: year, at, stays, swings. */
public final class YearsTest {
    public static void main(String[] args) {
        Checks.run(YearsTest.class);
        Checks.finish();
    }

    static void p09_year() {
        MiddleThree x = Checks.plain(1, 9, 1, 9);
        Checks.due("year", x.year(), 1);
        Checks.earned("all at once", x, 1, 1, 9, 9);
        Checks.due("year", x.year(), 2);
        Checks.earned("stays", x, 1, 1, 9, 9);
        x = Checks.plain(1, 9, 1, 9);
        Checks.street(x, "ring");
        Checks.due("year", x.year(), 1);
        Checks.earned("ring", x, 9, 1, 9, 1);
        x = Checks.plain(10);
        Checks.street(x, "add 10 y=0;tax 3 y=1");
        x.year();
        Checks.earned("by the year ahead", x, 20);
        x.year();
        Checks.earned("by the year ahead", x, 17);
        // more calls than are promised; no fewer come to this year
        x = Checks.plain(10);
        for (int year = 1; year <= 999; year++) {
            Checks.due("year", x.year(), year);
        }
        Checks.street(x, "add 1 h=0");
        Checks.due("year 999", x.year(), -3);
        Checks.earned("nothing goes on", x, 10);
        Checks.due("told", x.told(0), 999);
        Checks.due("what is asked goes beyond", x.at(60, 0), 70);
    }

    static void p10_at() {
        MiddleThree x = Checks.plain(10, 20, 30);
        Checks.street(x, "add 1 h=0;tax 1 h=2");
        Checks.due("at 0", x.at(0, 0), 10);
        Checks.due("at 0, all", x.at(0, 10), 60);
        Checks.due("at 5", x.at(5, 0), 15);
        Checks.due("at 5", x.at(5, 2), 25);
        Checks.due("at 5, all", x.at(5, 10), 60);
        Checks.due("at 60", x.at(60, 0), 70);
        Checks.due("at 60", x.at(60, 2), 0);
        Checks.due("at 61", x.at(61, 0), -2);
        Checks.due("at -1", x.at(-1, 10), -2);
        Checks.due("at: house 3", x.at(0, 3), -1);
        Checks.due("at: what 7", x.at(0, 7), -1);
        Checks.due("at: what 9", x.at(0, 9), -1);
        Checks.due("at: what 11", x.at(0, 11), -1);
        Checks.due("at: what -1", x.at(0, -1), -1);
        Checks.due("at: none ahead of bad", x.at(61, 3), -1);
        Checks.earned("at changes nothing", x, 10, 20, 30);
        Checks.due("at changes no year", x.told(0), 0);
        Checks.due("at without houses", new MiddleThree().at(60, 10), 0);
        x = Checks.plain(10);
        Checks.street(x, "add 1 y=3");
        x.year();
        Checks.due("at goes on from the year", x.at(2, 0), 10);
        Checks.due("at goes on from the year", x.at(3, 0), 11);
        Checks.due("at goes on from the year", x.at(13, 0), 12);
    }

    static void p11_stays() {
        Checks.due("stays without houses", new MiddleThree().stays(), 0);
        Checks.due("stays at once", Checks.plain(5, 6).stays(), 0);
        Checks.due("stays behind 1", Checks.plain(1, 9, 1, 9).stays(), 1);
        MiddleThree x = Checks.plain(1, 9, 1, 9);
        Checks.street(x, "ring");
        Checks.due("never stays", x.stays(), -5);
        x = Checks.plain(39);
        Checks.street(x, "add 1 h=0");
        Checks.due("stays behind 60", x.stays(), 60);
        x.earn(0, 38);
        Checks.due("stays too late", x.stays(), -5);
        x = Checks.plain(10);
        Checks.street(x, "add 1 y=3");
        Checks.due("the next year alone counts", x.stays(), 0);
        Checks.years(x, 3);
        Checks.due("the next year alone counts", x.stays(), 1);
        Checks.earned("stays changes nothing", x, 10);
    }

    static void p12_swings() {
        Checks.due("swings without houses", new MiddleThree().swings(), 1);
        Checks.due("swings: all stays", Checks.plain(1, 9, 1, 9).swings(), 1);
        MiddleThree x = Checks.plain(1, 9, 1, 9);
        Checks.street(x, "ring");
        Checks.due("swings by 2", x.swings(), 2);
        x = Checks.plain(0);
        Checks.street(x, "add 3 y=5;tax 3 y=9");
        Checks.due("swings: the next year is the same", x.swings(), 1);
        Checks.years(x, 5);
        Checks.due("swings by 5: 0 3 3 3 3 0", x.swings(), 5);
        x = Checks.plain(0);
        Checks.street(x, "add 1 h=0");
        Checks.due("swings: never", x.swings(), -5);
        x.earn(0, 59);
        Checks.due("swings: 99 in time", x.swings(), 1);
        x.earn(0, 58);
        Checks.due("swings: not yet 99", x.swings(), -5);
        Checks.earned("swings changes nothing", x, 58);
        x = Checks.plain(0);
        Checks.street(x, "add 1 y<9;tax 9 y=9");
        Checks.due("swings by 10", x.swings(), 10);
        // the two earn 5 and 20 behind years that are multiples of 4 and of 10, and 10 and 40 else
        x = Checks.town(4, 2, 0, 4, 8, 0);
        x.year();
        Checks.due("swings by 20", x.swings(), 20);
        x = Checks.town(4, 9, 0);
        Checks.years(x, 5);
        Checks.due("swings by 11", x.swings(), 11);
        x = Checks.town(4, 2, 0, 4, 9, 0);
        Checks.years(x, 5);
        Checks.due("swings by 44: too long", x.swings(), -5);
    }
}
