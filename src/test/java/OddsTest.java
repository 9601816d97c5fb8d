/** Promises 22 to 25: odds, mean, book, looked. */
public final class OddsTest {
    public static void main(String[] args) {
        Checks.run(OddsTest.class);
        Checks.finish();
    }

    private static void odds(MiddleThree x, int house, int n, int above, int below) {
        Checks.due("odds(" + house + ", " + n + ") above", x.odds(house, n, 0), above);
        Checks.due("odds(" + house + ", " + n + ") below", x.odds(house, n, 1), below);
    }

    static void p22_odds() {
        MiddleThree x = Checks.plain(5, 20);
        odds(x, 0, 0, 1, 1);
        odds(x, 0, 5, 1, 1);
        odds(x, 0, 6, 1, 2);
        odds(x, 0, 14, 1, 2);
        odds(x, 0, 15, 0, 1);
        odds(x, 1, 29, 1, 2);
        odds(x, 1, 99, 0, 1);
        x.earn(1, 95);
        odds(x, 1, 99, 1, 2);
        Checks.due("odds: house -1", x.odds(-1, 0, 0), Checks.NO);
        Checks.due("odds: house 2", x.odds(2, 0, 0), Checks.NO);
        Checks.due("odds: n -1", x.odds(0, -1, 0), Checks.NO);
        Checks.due("odds: n 100", x.odds(0, 100, 0), Checks.NO);
        Checks.due("odds: part -1", x.odds(0, 0, -1), Checks.NO);
        Checks.due("odds: part 2", x.odds(0, 0, 2), Checks.NO);
        Checks.due("odds without houses", new MiddleThree().odds(0, 0, 0), Checks.NO);
        Checks.earned("odds changes nothing", x, 5, 95);
        odds(Checks.plain(5, 5, 5, 5), 0, 14, 1, 4);
        odds(Checks.plain(5, 5, 5), 1, 6, 0, 1);
        // by gifts to house 1 and to house 2, which then earns 14: two of four in lowest terms
        odds(Checks.plain(20, 11, 5, 5), 1, 14, 1, 2);
        // the middle one comes to the lesser of its neighbours, 41, by a gift to the last to 50
        odds(Checks.town(0, 0, 50, 1, 0, 0, 0, 0, 41), 1, 50, 1, 3);
        odds(Checks.town(0, 0, 50, 1, 0, 0, 0, 0, 41), 1, 41, 1, 1);
        x = Checks.plain(1, 1, 1, 1);
        odds(x, 0, 1, 1, 1);
        Checks.street(x, "tax 99 h>1&b>0");
        odds(x, 3, 1, 1, 4);
        x = Checks.plain(0);
        Checks.street(x, "add 1 e<9");
        odds(x, 0, 49, 1, 1);
        odds(x, 0, 50, 0, 1);
    }

    private static void mean(MiddleThree x, int n, int above, int below) {
        Checks.due("mean(" + n + ") above", x.mean(n, 0), above);
        Checks.due("mean(" + n + ") below", x.mean(n, 1), below);
    }

    static void p23_mean() {
        MiddleThree x = Checks.plain(5, 20);
        mean(x, 1, 25, 2);
        mean(x, 60, 25, 2);
        x = Checks.plain(0);
        mean(x, 7, 0, 1);
        Checks.street(x, "add 1 h=0");
        mean(x, 1, 1, 1);
        mean(x, 2, 3, 2);
        mean(x, 3, 2, 1);
        mean(x, 60, 61, 2);
        Checks.due("mean: n 0", x.mean(0, 0), Checks.NO);
        Checks.due("mean: n -1", x.mean(-1, 0), Checks.NO);
        Checks.due("mean: n 61", x.mean(61, 1), Checks.NO);
        Checks.due("mean: part -1", x.mean(1, -1), Checks.NO);
        Checks.due("mean: part 2", x.mean(1, 2), Checks.NO);
        Checks.due("mean without houses", new MiddleThree().mean(1, 0), Checks.NO);
        Checks.earned("mean changes nothing", x, 0);
        x = Checks.plain(99, 99, 99, 99, 99, 99, 99);
        mean(x, 60, 99, 1);
    }

    static void p24_book() {
        MiddleThree x = new MiddleThree();
        Checks.due("book", x.book(0), 1);
        Checks.due("book", x.book(99), 2);
        Checks.due("book: a gap", x.book(-2), 3);
        Checks.due("book: n -3", x.book(-3), -2);
        Checks.due("book: n 100", x.book(100), -2);
        for (int i = 4; i <= 12; i++) {
            Checks.due("book", x.book(i), i);
        }
        Checks.due("book: full", x.book(0), -4);
        Checks.due("book: bad ahead of full", x.book(100), -2);
        Checks.due("book: 12", x.count(3), 12);
        Checks.due("book: emptied", x.book(-1), 0);
        Checks.due("book: none", x.count(3), 0);
        Checks.due("book: again", x.book(7), 1);
    }

    static void p25_looked() {
        MiddleThree x = new MiddleThree();
        Checks.due("looked without houses", x.looked(), -3);
        x.book(1);
        Checks.due("looked without houses", x.looked(), -3);
        x = Checks.plain(5, 50);
        Checks.due("looked: no book", x.looked(), -5);
        Checks.street(x, "add 1 h=0");
        x.book(6);
        Checks.due("looked: 1 year", x.looked(), -5);
        x.book(-2);
        x.book(8);
        Checks.due("looked: 3 years", x.looked(), -5);
        x.book(8);
        Checks.due("looked: the fourth", x.looked(), 3);
        x.book(9);
        Checks.due("looked: the first that is otherwise", x.looked(), 3);
        x.year();
        Checks.due("looked: from now on", x.looked(), 0);
        Checks.earned("looked changes nothing", x, 6, 50);
        x.book(-1);
        for (int i = 1; i <= 11; i++) {
            x.book(6 + i);
        }
        Checks.due("looked: 11 years", x.looked(), -5);
        x.book(1);
        Checks.due("looked: the last", x.looked(), 11);
    }
}
