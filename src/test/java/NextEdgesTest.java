/** The edges of what SAYS and NEXT are, as promise 3 tells them: kinds, rows and rings, bounds. */
public final class NextEdgesTest {
    public static void main(String[] args) {
        Checks.run(NextEdgesTest.class);
        Checks.finish();
    }

    private static MiddleThree ring(MiddleThree x) {
        Checks.due("ring", Checks.street(x, "ring"), x.count(1) - 1);
        return x;
    }

    // ---- SAYS of a HOUSE: what it EARNS; LYING: 0, if YEAR modulo 9 is v, else that.

    static void p03_saysWhatItEarns() {
        for (int kind = 0; kind <= 6; kind++) {
            if (kind != 5) {
                // year 0 modulo 9 is v, but it is not a lying one
                Checks.due("kind " + kind, Checks.town(kind, 0, 41).of(0, 3), 41);
            }
        }
    }

    static void p03_lyingSays0IfYearModulo9IsV() {
        for (int v = 0; v <= 8; v++) {
            MiddleThree x = Checks.town(5, v, 50);
            for (int year = 0; year <= 20; year++) {
                boolean lies = year == v || year == v + 9 || year == v + 18;
                Checks.due("v " + v + ", year " + year, x.of(0, 3), lies ? 0 : 50);
                x.year();
            }
        }
    }

    static void p03_lyingOfV9NeverSays0() {
        MiddleThree x = Checks.town(5, 9, 50);
        for (int year = 0; year <= 20; year++) {
            Checks.due("year " + year, x.of(0, 3), 50);
            x.year();
        }
    }

    // ---- BESIDE, and HOUSE: what it EARNS, if there are not two other HOUSES BESIDE it.

    static void p03_oneHouseAlone() {
        Checks.nexts("a row of one", Checks.plain(7), 7);
        Checks.nexts("a ring of one", ring(Checks.plain(7)), 7);
    }

    static void p03_twoHouses() {
        Checks.nexts("a row of two", Checks.plain(1, 50), 1, 50);
        Checks.nexts("a ring of two: but one other beside it", ring(Checks.plain(1, 50)), 1, 50);
    }

    static void p03_endsOfARow() {
        Checks.nexts("three", Checks.plain(5, 9, 7), 5, 7, 7);
        Checks.nexts("seven", Checks.plain(90, 1, 2, 3, 2, 1, 80), 90, 2, 2, 2, 2, 2, 80);
    }

    static void p03_firstAndLastBesideOneAnotherInARing() {
        Checks.nexts("three", ring(Checks.plain(5, 9, 7)), 7, 7, 7);
        Checks.nexts("seven", ring(Checks.plain(90, 1, 2, 3, 2, 1, 80)), 80, 2, 2, 2, 2, 2, 80);
    }

    static void p03_middleOfThree() {
        int[][] rows = {{1, 2, 3}, {1, 3, 2}, {2, 1, 3}, {2, 3, 1}, {3, 1, 2}, {3, 2, 1}};
        for (int[] row : rows) {
            Checks.due(row[0] + " " + row[1] + " " + row[2], Checks.plain(row).of(1, 4), 2);
        }
    }

    static void p03_middleOfAlikeOnes() {
        Checks.due("4 4 4", Checks.plain(4, 4, 4).of(1, 4), 4);
        Checks.due("4 4 9", Checks.plain(4, 4, 9).of(1, 4), 4);
        Checks.due("9 4 4", Checks.plain(9, 4, 4).of(1, 4), 4);
        Checks.due("4 9 4", Checks.plain(4, 9, 4).of(1, 4), 4);
        Checks.due("9 4 9", Checks.plain(9, 4, 9).of(1, 4), 9);
        Checks.due("0 99 0", Checks.plain(0, 99, 0).of(1, 4), 0);
        Checks.due("99 0 99", Checks.plain(99, 0, 99).of(1, 4), 99);
    }

    static void p03_ofWhatTheTwoBesideSayNotEarn() {
        Checks.due("the one ahead lies", Checks.town(5, 0, 60, 0, 0, 50, 0, 0, 40).of(1, 4), 40);
        Checks.due("the one behind lies", Checks.town(0, 0, 40, 0, 0, 50, 5, 0, 60).of(1, 4), 40);
        Checks.due("both lie", Checks.town(5, 0, 60, 0, 0, 50, 5, 0, 60).of(1, 4), 0);
        Checks.due("none lies this year", Checks.town(5, 1, 60, 0, 0, 50, 0, 0, 40).of(1, 4), 50);
    }

    static void p03_ofWhatItEarnsItselfNotSays() {
        Checks.due("a lying one between", Checks.town(0, 0, 60, 5, 0, 50, 0, 0, 40).of(1, 4), 50);
    }

    // ---- PROUD: as HOUSE, but 5 times v at least.

    static void p03_proudAtTheBound() {
        Checks.due("less by one", Checks.town(1, 3, 14).of(0, 4), 15);
        Checks.due("just that", Checks.town(1, 3, 15).of(0, 4), 15);
        Checks.due("more by one", Checks.town(1, 3, 16).of(0, 4), 16);
    }

    static void p03_proudOfV0And9() {
        Checks.due("v 0", Checks.town(1, 0, 0).of(0, 4), 0);
        Checks.due("v 9", Checks.town(1, 9, 0).of(0, 4), 45);
    }

    static void p03_proudAsHouse() {
        Checks.due("the middle one", Checks.town(0, 0, 10, 1, 1, 90, 0, 0, 20).of(1, 4), 20);
        Checks.due("5 times v, not what it earns", Checks.town(0, 0, 10, 1, 5, 90, 0, 0, 20).of(1, 4), 25);
    }

    // ---- MEEK, LYING: as HOUSE, but no more than it EARNS.

    static void p03_meekNoMoreThanItEarns() {
        for (int kind : new int[] {2, 5}) {
            Checks.due("kind " + kind + ": more", Checks.town(0, 0, 30, kind, 9, 29, 0, 0, 40).of(1, 4), 29);
            Checks.due("kind " + kind + ": just that", Checks.town(0, 0, 30, kind, 9, 30, 0, 0, 40).of(1, 4), 30);
            Checks.due("kind " + kind + ": less", Checks.town(0, 0, 30, kind, 9, 50, 0, 0, 40).of(1, 4), 40);
            Checks.due("kind " + kind + ": v does not matter", Checks.town(kind, 9, 3).of(0, 4), 3);
        }
    }

    static void p03_lyingNoMoreThanItEarnsThoughItSays0() {
        Checks.due("it says 0", Checks.town(0, 0, 30, 5, 0, 29, 0, 0, 40).of(1, 4), 29);
    }

    // ---- WIDE: a row of what it EARNS and what others SAY, 1 or 2 places away, each once.

    static void p03_wideAlone() {
        Checks.due("row", Checks.town(3, 0, 8).of(0, 4), 8);
        Checks.due("ring", ring(Checks.town(3, 0, 8)).of(0, 4), 8);
    }

    static void p03_wideOfTwoInTheMiddleTheLesser() {
        Checks.due("two, it has more", Checks.town(3, 0, 8, 0, 0, 5).of(0, 4), 5);
        Checks.due("two, it has less", Checks.town(3, 0, 5, 0, 0, 8).of(0, 4), 5);
        Checks.due("four", Checks.town(0, 0, 1, 3, 0, 9, 0, 0, 4, 0, 0, 6).of(1, 4), 4);
        Checks.due("four, it has the lesser", Checks.town(0, 0, 1, 3, 0, 4, 0, 0, 9, 0, 0, 6).of(1, 4), 4);
    }

    static void p03_wideTheMiddleOne() {
        Checks.due("three", Checks.town(3, 0, 9, 0, 0, 1, 0, 0, 5).of(0, 4), 5);
        Checks.due("five", Checks.town(0, 0, 5, 0, 0, 1, 3, 0, 9, 0, 0, 3, 0, 0, 7).of(2, 4), 5);
    }

    static void p03_wideSees2PlacesNot3InARow() {
        // 10 30 50 by the three within 2 places, and any other by a fourth
        MiddleThree x = Checks.town(3, 0, 10, 0, 0, 50, 0, 0, 30, 0, 0, 99, 0, 0, 99);
        Checks.due("the first", x.of(0, 4), 30);
        x.earn(3, 0);
        x.earn(4, 0);
        Checks.due("3 and 4 places away do not matter", x.of(0, 4), 30);
        x.earn(2, 20);
        Checks.due("2 places away matters", x.of(0, 4), 20);
        x = Checks.town(0, 0, 99, 0, 0, 99, 0, 0, 30, 0, 0, 50, 3, 0, 10);
        Checks.due("the last", x.of(4, 4), 30);
        x.earn(1, 0);
        Checks.due("3 places ahead does not matter", x.of(4, 4), 30);
        x.earn(2, 20);
        Checks.due("2 places ahead matters", x.of(4, 4), 20);
    }

    static void p03_wideGoesRoundInARing() {
        // house 0 of a ring of seven sees 1, 2, 5 and 6
        MiddleThree x = ring(Checks.town(3, 0, 50, 0, 0, 10, 0, 0, 20, 0, 0, 0, 0, 0, 0, 0, 0, 60, 0, 0, 70));
        Checks.due("10 20 50 60 70", x.of(0, 4), 50);
        x.earn(5, 30);
        Checks.due("2 places ahead, round", x.of(0, 4), 30);
        x.earn(5, 60);
        x.earn(6, 40);
        Checks.due("1 place ahead, round", x.of(0, 4), 40);
        x.earn(0, 30);
        Checks.due("itself", x.of(0, 4), 30);
        x.earn(3, 99);
        x.earn(4, 99);
        Checks.due("3 places away does not matter", x.of(0, 4), 30);
    }

    static void p03_wideEachOnceInARingOfTwo() {
        Checks.due("the lesser of two", ring(Checks.town(3, 0, 40, 0, 0, 50)).of(0, 4), 40);
        Checks.due("itself once", ring(Checks.town(3, 0, 50, 0, 0, 40)).of(0, 4), 40);
    }

    static void p03_wideEachOnceInARingOfThree() {
        Checks.due("the middle of three", ring(Checks.town(3, 0, 10, 0, 0, 30, 0, 0, 90)).of(0, 4), 30);
        Checks.due("the middle of three", ring(Checks.town(3, 0, 90, 0, 0, 30, 0, 0, 10)).of(0, 4), 30);
    }

    static void p03_wideEachOnceInARingOfFour() {
        // by the one over there twice it would be 80
        Checks.due("the lesser of two of four", ring(Checks.town(3, 0, 50, 0, 0, 60, 0, 0, 80, 0, 0, 90)).of(0, 4), 60);
    }

    static void p03_wideInARingOfFive() {
        Checks.due("all five", ring(Checks.town(3, 0, 50, 0, 0, 60, 0, 0, 80, 0, 0, 40, 0, 0, 90)).of(0, 4), 60);
    }

    static void p03_wideHearsWhatOthersSay() {
        Checks.due("the other lies", Checks.town(3, 0, 50, 5, 0, 60).of(0, 4), 0);
        Checks.due("2 places away one lies", Checks.town(3, 0, 50, 0, 0, 60, 5, 0, 70).of(0, 4), 50);
    }

    // ---- SAINT: as PROUD, but the half of that (cut), if YEAR is a multiple of v and 2, together.

    static void p03_saintInYear0() {
        for (int v = 0; v <= 9; v++) {
            Checks.due("v " + v, Checks.town(4, v, 90).of(0, 4), 45);
        }
    }

    static void p03_saintEveryVAnd2Years() {
        for (int v = 0; v <= 9; v++) {
            MiddleThree x = Checks.town(4, v, 90);
            for (int year = 0; year <= 2 * v + 5; year++) {
                boolean half = year == 0 || year == v + 2 || year == 2 * v + 4;
                x.earn(0, 90);
                Checks.due("v " + v + ", year " + year, x.of(0, 4), half ? 45 : 90);
                x.year();
            }
        }
    }

    static void p03_saintTheHalfCut() {
        Checks.due("the half of 91", Checks.town(4, 0, 91).of(0, 4), 45);
        Checks.due("the half of 1", Checks.town(4, 0, 1).of(0, 4), 0);
        Checks.due("the half of 0", Checks.town(4, 0, 0).of(0, 4), 0);
    }

    static void p03_saintTheHalfOfWhatAProudOneWouldHave() {
        Checks.due("the half of 5 times 9", Checks.town(4, 9, 7).of(0, 4), 22);
        Checks.due("the half of the middle", Checks.town(0, 0, 10, 4, 0, 90, 0, 0, 31).of(1, 4), 15);
    }

    // ---- TOLD: that one of WIDE's row that its ROW tells at YEAR modulo 4; the last one, if there are fewer.

    static void p03_toldTheLeastBeing0() {
        MiddleThree x = Checks.town(0, 0, 30, 0, 0, 10, 6, 0, 20, 0, 0, 50, 0, 0, 40);
        for (int n = 0; n <= 4; n++) {
            x.row(2, 0, n);
            Checks.due("told " + n, x.of(2, 4), 10 * n + 10);
        }
    }

    static void p03_toldTheLastOneIfThereAreFewer() {
        int[] earned = {10, 20, 30, 40, 50};
        for (int size = 1; size <= 5; size++) {
            MiddleThree x = new MiddleThree();
            for (int h = 0; h < size; h++) {
                x.house(6, 0, earned[h]);
            }
            // the third of four and of five sees all; of fewer the first does
            int asked = size > 3 ? 2 : 0;
            for (int n = 0; n <= 4; n++) {
                x.row(asked, 0, n);
                Checks.due(n + " of " + size, x.of(asked, 4), earned[Math.min(n, size - 1)]);
            }
        }
    }

    static void p03_toldAtYearModulo4() {
        MiddleThree x = Checks.town(6, 0, 20, 0, 0, 10, 0, 0, 30);
        Checks.row(x, 0, 2, 0, 1, 2);
        int[] due = {30, 10, 20, 30};
        for (int year = 0; year <= 9; year++) {
            x.earn(0, 20);
            x.earn(1, 10);
            Checks.due("year " + year, x.of(0, 4), due[year % 4]);
            x.year();
        }
    }

    static void p03_toldAtFirstTheLeast() {
        MiddleThree x = Checks.town(6, 0, 20, 0, 0, 10);
        for (int year = 0; year <= 3; year++) {
            x.earn(0, 20);
            Checks.due("year " + year, x.of(0, 4), 10);
            x.year();
        }
    }

    static void p03_toldHearsWhatOthersSay() {
        Checks.due("the other lies", Checks.town(6, 0, 50, 5, 0, 60).of(0, 4), 0);
    }

    // ---- Then it is ADDS more; 0 .. 99, else the bound.

    private static int next(int earned, String text) {
        MiddleThree x = Checks.plain(earned);
        Checks.due(text, Checks.street(x, text), 0);
        return x.of(0, 4);
    }

    static void p03_boundAbove() {
        Checks.due("98", next(90, "add 8 h=0"), 98);
        Checks.due("99", next(90, "add 9 h=0"), 99);
        Checks.due("100", next(90, "add 10 h=0"), 99);
        Checks.due("99 and all that nine clauses add", next(99, "add 99 h=0;".repeat(8) + "add 99 h=0"), 99);
    }

    static void p03_boundBelow() {
        Checks.due("1", next(9, "tax 8 h=0"), 1);
        Checks.due("0", next(9, "tax 9 h=0"), 0);
        Checks.due("-1", next(9, "tax 10 h=0"), 0);
        Checks.due("0 less all that nine clauses tax", next(0, "tax 99 h=0;".repeat(8) + "tax 99 h=0"), 0);
    }

    static void p03_boundOnlyBehindAllAddsAndTaxes() {
        Checks.due("90 and 60 less 60", next(90, "add 60 h=0;tax 60 h=0"), 90);
        Checks.due("10 less 60 and 60", next(10, "tax 60 h=0;add 60 h=0"), 10);
    }

    static void p03_addsComeBehindTheKind() {
        MiddleThree x = Checks.town(4, 0, 80, 1, 9, 0, 2, 0, 7);
        Checks.street(x, "add 5 h<3");
        Checks.nexts("behind the half, behind 5 times v, more than a meek one earns", x, 45, 50, 12);
    }
}
