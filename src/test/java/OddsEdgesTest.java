/** The edges of promises 22 to 25: odds, mean, book, looked. */
public final class OddsEdgesTest {
    public static void main(String[] args) {
        Checks.run(OddsEdgesTest.class);
        Checks.finish();
    }

    private static MiddleThree with(String text, int... earned) {
        MiddleThree x = Checks.plain(earned);
        Checks.due(text, Checks.street(x, text), 0);
        return x;
    }

    private static void odds(MiddleThree x, int house, int n, int above, int below) {
        Checks.due("odds of house " + house + " by " + n + ", above", x.odds(house, n, 0), above);
        Checks.due("odds of house " + house + " by " + n + ", below", x.odds(house, n, 1), below);
    }

    private static void mean(MiddleThree x, int n, int above, int below) {
        Checks.due("mean of " + n + ", above", x.mean(n, 0), above);
        Checks.due("mean of " + n + ", below", x.mean(n, 1), below);
    }

    // ---- 22: ODDS; part 0 above, 1 below the line. NO.

    static void p22_houseBelow0() {
        Checks.due("house -1", Checks.plain(5).odds(-1, 5, 0), Checks.NO);
        Checks.due("least house", Checks.plain(5).odds(Integer.MIN_VALUE, 5, 1), Checks.NO);
    }

    static void p22_houseBeyondTheLast() {
        Checks.due("house 0 of none", new MiddleThree().odds(0, 5, 0), Checks.NO);
        Checks.due("house 1 of one", Checks.plain(5).odds(1, 5, 0), Checks.NO);
        Checks.due("greatest house", Checks.plain(5).odds(Integer.MAX_VALUE, 5, 1), Checks.NO);
        odds(Checks.plain(1, 1, 1, 1, 1, 1, 1), 6, 2, 1, 7);
        Checks.due("house 7 of seven", Checks.plain(1, 1, 1, 1, 1, 1, 1).odds(7, 2, 0), Checks.NO);
    }

    static void p22_nBelow0() {
        Checks.due("n -1", Checks.plain(5).odds(0, -1, 0), Checks.NO);
        Checks.due("least n", Checks.plain(5).odds(0, Integer.MIN_VALUE, 1), Checks.NO);
    }

    static void p22_nAbove99() {
        Checks.due("n 100", Checks.plain(5).odds(0, 100, 0), Checks.NO);
        Checks.due("greatest n", Checks.plain(5).odds(0, Integer.MAX_VALUE, 1), Checks.NO);
    }

    static void p22_n0And99() {
        odds(Checks.plain(0), 0, 0, 1, 1);
        odds(Checks.plain(89), 0, 99, 0, 1);
        odds(Checks.plain(90), 0, 99, 1, 1);
    }

    static void p22_partBelow0() {
        Checks.due("part -1", Checks.plain(5).odds(0, 5, -1), Checks.NO);
        Checks.due("least part", Checks.plain(5).odds(0, 5, Integer.MIN_VALUE), Checks.NO);
    }

    static void p22_partAbove1() {
        Checks.due("part 2", Checks.plain(5).odds(0, 5, 2), Checks.NO);
        Checks.due("greatest part", Checks.plain(5).odds(0, 5, Integer.MAX_VALUE), Checks.NO);
    }

    static void p22_nOrMore() {
        odds(Checks.plain(5, 5), 0, 5, 1, 1);
        odds(Checks.plain(5, 5), 0, 6, 1, 2);
        odds(Checks.plain(5, 5), 0, 13, 1, 2);
    }

    static void p22_aGiftOf9() {
        odds(Checks.plain(5, 5), 0, 14, 1, 2);
        odds(Checks.plain(5, 5), 0, 15, 0, 1);
    }

    static void p22_aGiftTo99AtMost() {
        // by the gift it would be 107, which is more than the bound of what is earned
        odds(Checks.plain(98, 5), 0, 99, 1, 2);
        odds(with("tax 99 e>9", 98, 5), 0, 98, 1, 1);
    }

    static void p22_never() {
        odds(Checks.plain(5, 5, 5, 5), 0, 99, 0, 1);
    }

    static void p22_surely() {
        odds(Checks.plain(5, 5, 5, 5), 0, 5, 1, 1);
    }

    static void p22_lowestTerms() {
        // 2 of 4: the gifts to house 1 and to house 2
        odds(Checks.plain(20, 11, 5, 5), 1, 14, 1, 2);
        // by a gift to one that earns 54 house 0 is taxed: 3 of 6, 4 of 6, 2 of 6, 4 of 7 are left
        odds(with("tax 99 h=0&b>0", 60, 54, 54, 54, 1, 1), 0, 60, 1, 2);
        odds(with("tax 99 h=0&b>0", 60, 54, 54, 1, 1, 1), 0, 60, 2, 3);
        odds(with("tax 99 h=0&b>0", 60, 54, 54, 54, 54, 1), 0, 60, 1, 3);
        odds(with("tax 99 h=0&b>0", 60, 54, 54, 54, 1, 1, 1), 0, 60, 4, 7);
    }

    static void p22_giftsToOthers() {
        odds(Checks.town(0, 0, 50, 1, 0, 0, 0, 0, 41), 1, 50, 1, 3);
    }

    static void p22_behind40Years() {
        odds(with("add 1 e<9", 0), 0, 49, 1, 1);
        odds(with("add 1 e<9", 0), 0, 50, 0, 1);
    }

    // ---- 23: MEAN; part likewise. NO.

    static void p23_nBelow1() {
        Checks.due("n 0", Checks.plain(5).mean(0, 0), Checks.NO);
        Checks.due("n 0, below", Checks.plain(5).mean(0, 1), Checks.NO);
        Checks.due("n -1", Checks.plain(5).mean(-1, 0), Checks.NO);
        Checks.due("least n", Checks.plain(5).mean(Integer.MIN_VALUE, 0), Checks.NO);
    }

    static void p23_nAbove60() {
        Checks.due("n 61", Checks.plain(5).mean(61, 0), Checks.NO);
        Checks.due("n 61, below", Checks.plain(5).mean(61, 1), Checks.NO);
        Checks.due("greatest n", Checks.plain(5).mean(Integer.MAX_VALUE, 0), Checks.NO);
    }

    static void p23_n1() {
        mean(with("add 1 h=0", 0), 1, 1, 1);
    }

    static void p23_n60() {
        mean(with("add 1 h=0", 0), 60, 61, 2);
        mean(with("add 1 h=0", 0), 59, 30, 1);
    }

    static void p23_partBelow0() {
        Checks.due("part -1", Checks.plain(5).mean(1, -1), Checks.NO);
        Checks.due("least part", Checks.plain(5).mean(1, Integer.MIN_VALUE), Checks.NO);
    }

    static void p23_partAbove1() {
        Checks.due("part 2", Checks.plain(5).mean(1, 2), Checks.NO);
        Checks.due("greatest part", Checks.plain(5).mean(1, Integer.MAX_VALUE), Checks.NO);
    }

    static void p23_withoutHousesNone() {
        Checks.due("above", new MiddleThree().mean(1, 0), Checks.NO);
        Checks.due("below", new MiddleThree().mean(60, 1), Checks.NO);
    }

    static void p23_allEarn0() {
        mean(Checks.plain(0, 0, 0), 7, 0, 1);
    }

    static void p23_lowestTerms() {
        mean(Checks.plain(5, 20), 1, 25, 2);
        mean(Checks.plain(5, 20), 60, 25, 2);
        mean(Checks.plain(5, 5, 6), 4, 16, 3);
        mean(Checks.plain(2, 2, 2, 2, 2, 2, 2), 60, 2, 1);
        mean(Checks.plain(99, 99, 99, 99, 99, 99, 99), 60, 99, 1);
    }

    static void p23_nowIsNotCounted() {
        // 10 now, then 60 and 60
        mean(with("add 50 y=0", 10), 2, 60, 1);
    }

    // ---- 24: A row (0 .. 99, -2) comes to the BOOK: how many there are (-1: it is empty then, 0). BAD; FULL: 12.

    static void p24_nBelowMinus2() {
        Checks.due("n -3", new MiddleThree().book(-3), -2);
        Checks.due("least n", new MiddleThree().book(Integer.MIN_VALUE), -2);
    }

    static void p24_nAbove99() {
        Checks.due("n 100", new MiddleThree().book(100), -2);
        Checks.due("greatest n", new MiddleThree().book(Integer.MAX_VALUE), -2);
    }

    static void p24_n0And99AndAGap() {
        MiddleThree x = new MiddleThree();
        Checks.due("0", x.book(0), 1);
        Checks.due("99", x.book(99), 2);
        Checks.due("a gap", x.book(-2), 3);
        Checks.due("count(3)", x.count(3), 3);
    }

    static void p24_minus1() {
        MiddleThree x = Checks.plain(5);
        x.book(6);
        x.book(7);
        Checks.due("empty then", x.book(-1), 0);
        Checks.due("count(3)", x.count(3), 0);
        Checks.due("nothing is otherwise", x.looked(), -5);
        Checks.due("empty again", x.book(-1), 0);
        Checks.due("the first", x.book(5), 1);
        Checks.due("it is so", x.looked(), -5);
    }

    static void p24_minus1WhenFull() {
        Checks.due("empty then", Checks.full().book(-1), 0);
    }

    static void p24_fullAt12() {
        MiddleThree x = Checks.plain(5);
        for (int i = 1; i <= 12; i++) {
            Checks.due("a row", x.book(5), i);
        }
        Checks.due("a thirteenth", x.book(6), -4);
        Checks.due("a gap", x.book(-2), -4);
        Checks.due("count(3)", x.count(3), 12);
        Checks.due("all twelve are so", x.looked(), -5);
    }

    static void p24_badAheadOfFull() {
        Checks.due("n 100", Checks.full().book(100), -2);
        Checks.due("n -3", Checks.full().book(-3), -2);
    }

    static void p24_aRefusedRowComesNot() {
        MiddleThree x = Checks.plain(5);
        x.book(100);
        x.book(-3);
        Checks.due("count(3)", x.count(3), 0);
        Checks.due("the first", x.book(5), 1);
    }

    // ---- 25: LOOKED at; -5. STATE: there is no HOUSE.

    static void p25_withoutHouses() {
        MiddleThree x = new MiddleThree();
        Checks.due("no book", x.looked(), -3);
        x.book(0);
        Checks.due("a book", x.looked(), -3);
        x.house(0, 0, 0);
        Checks.due("a house", x.looked(), -5);
    }

    static void p25_withoutABook() {
        Checks.due("none is otherwise", Checks.plain(5).looked(), -5);
    }

    static void p25_theFirstRowIsBehind1Year() {
        MiddleThree x = with("add 1 h=0", 5);
        x.book(6);
        Checks.due("6 behind 1 year", x.looked(), -5);
        x.book(8);
        Checks.due("not 8 behind 2 years", x.looked(), 1);
        x = with("add 1 h=0", 5);
        x.book(5);
        Checks.due("not 5 behind 1 year", x.looked(), 0);
    }

    static void p25_theTwelfth() {
        MiddleThree x = with("add 1 h=0", 5);
        for (int i = 1; i <= 11; i++) {
            x.book(5 + i);
        }
        x.image();
        x.book(17);
        Checks.due("it is so", x.looked(), -5);
        x.undo();
        x.book(18);
        Checks.due("it is otherwise", x.looked(), 11);
    }

    static void p25_theFirstThatIsOtherwise() {
        MiddleThree x = Checks.plain(5);
        x.book(5);
        x.book(5);
        x.book(6);
        x.book(5);
        x.book(7);
        Checks.due("the third", x.looked(), 2);
    }

    static void p25_aGapIsNotOtherwise() {
        MiddleThree x = with("add 1 h=0", 5);
        for (int i = 0; i < 11; i++) {
            x.book(-2);
        }
        Checks.due("gaps alone", x.looked(), -5);
        x.book(6);
        Checks.due("behind gaps: 17, not 6", x.looked(), 11);
    }

    static void p25_house0Alone() {
        MiddleThree x = Checks.plain(5, 50);
        x.book(5);
        Checks.due("house 0", x.looked(), -5);
        x.book(50);
        Checks.due("not house 1", x.looked(), 1);
    }
}
