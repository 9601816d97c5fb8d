/** Promises 18 to 21: before, see, lied, wed. */
public final class SeenTest {
    public static void main(String[] args) {
        Checks.run(SeenTest.class);
        Checks.finish();
    }

    static void p18_before() {
        MiddleThree x = Checks.plain(5, 7);
        Checks.due("before: year 0", x.before(-1), -8);
        Checks.due("before: year 0", x.before(1), -8);
        Checks.due("before: what 2", x.before(2), -1);
        Checks.due("before: what -2", x.before(-2), -1);
        x.year();
        Checks.due("before", x.before(-1), 1);
        Checks.due("before: house 0", x.before(0), 5);
        Checks.due("before: house 1", x.before(1), 7);
        x = Checks.plain(1, 2, 3, 4, 5);
        Checks.due("before: too many ahead of year 0", x.before(-1), -9);
        Checks.due("before: none ahead of too many", x.before(5), -1);
        x.year();
        Checks.due("before: too many", x.before(4), -9);
        x = Checks.plain(1, 9, 1, 9);
        x.image();
        x.year();
        Checks.due("before of four", x.before(-1), 1 + 1);
        x.undo();
        Checks.due("before: year 0 again", x.before(-1), -8);
        x = new MiddleThree();
        x.year();
        Checks.due("before without houses: the empty row", x.before(-1), 1);
        Checks.due("before without houses", x.before(0), -1);
    }

    static void p18_beforeRows() {
        MiddleThree x = Checks.town(1, 9, 45, 0, 0, 3);
        x.year();
        Checks.due("before: 3 3 and 45 3", x.before(-1), 2);
        Checks.due("before: the first", x.before(0), 3);
        Checks.due("before: the first", x.before(1), 3);
        x.earn(0, 40);
        Checks.due("before: no row", x.before(-1), 0);
        Checks.due("before: no row", x.before(0), -5);
        x = Checks.plain(5);
        Checks.street(x, "add 1 y=1");
        x.year();
        Checks.due("before: by the year ago", x.before(-1), 1);
        x.year();
        Checks.earned("year 2", x, 6);
        Checks.due("before: it earned 5, but none does now", x.before(-1), 0);
        x = Checks.plain(5, 6);
        Checks.street(x, "add 1 h=0");
        x.year();
        Checks.earned("year 1", x, 6, 6);
        Checks.due("before: only what some house earns now", x.before(-1), 0);
        Checks.street(x, "row");
        Checks.due("before: by the street that holds", x.before(-1), 1);
        x = Checks.plain(5, 5, 5, 9);
        Checks.street(x, "ring");
        x.year();
        Checks.earned("ring", x, 5, 5, 5, 5);
        Checks.due("before: alike ones count once", x.before(-1), 1);
        Checks.due("before: what earned", x.before(3), 5);
        x = Checks.plain(0, 99);
        x.year();
        Checks.due("before: least and most", x.before(-1), 1);
        Checks.due("before: least", x.before(0), 0);
        Checks.due("before: most", x.before(1), 99);
        x = Checks.town(0, 0, 9, 0, 0, 5, 5, 1, 9);
        x.year();
        Checks.earned("honest in year 0", x, 9, 9, 9);
        x = Checks.town(0, 0, 9, 0, 0, 5, 5, 0, 9);
        x.year();
        Checks.earned("lied in year 0", x, 9, 5, 9);
        Checks.due("before: who lied then", x.before(-1), 1);
        Checks.due("before: who lied then", x.before(1), 5);
    }

    static void p19_see() {
        MiddleThree x = Checks.plain(5, 6);
        Checks.due("see", x.see(0, 0), 1);
        Checks.due("see", x.see(1, 99), 2);
        Checks.due("see one again", x.see(1, 99), 3);
        Checks.due("see: house -2", x.see(-2, 0), -1);
        Checks.due("see: house 2", x.see(2, 0), -1);
        Checks.due("see: n -1", x.see(0, -1), -2);
        Checks.due("see: n 100", x.see(0, 100), -2);
        Checks.due("see: none ahead of bad", x.see(2, 100), -1);
        Checks.due("see: none came", x.count(2), 3);
        for (int i = 4; i <= 8; i++) {
            Checks.due("see", x.see(0, 5), i);
        }
        Checks.due("see: full", x.see(0, 5), -4);
        Checks.due("see: bad ahead of full", x.see(0, 100), -2);
        Checks.due("see: none ahead of full", x.see(2, 5), -1);
        Checks.due("see -1", x.see(-1, 1000), 0);
        Checks.due("see: none left", x.count(2), 0);
        Checks.due("see -1", x.see(-1, -1), 0);
        Checks.due("see: again", x.see(0, 5), 1);
    }

    static void p20_lied() {
        MiddleThree x = new MiddleThree();
        Checks.due("lied: no houses", x.lied(0), 0);
        Checks.due("true: no houses", x.lied(1), 1);
        x = Checks.plain(1, 9, 5);
        Checks.due("lied: what -1", x.lied(-1), -1);
        Checks.due("lied: what 2", x.lied(2), -1);
        Checks.due("lied: nothing seen", x.lied(0), 7);
        Checks.due("true: nothing seen", x.lied(1), 1);
        x.see(1, 5);
        Checks.due("lied", x.lied(0), 3);
        Checks.due("true", x.lied(1), 1);
        x.see(0, 1);
        Checks.due("lied: both are so", x.lied(0), 3);
        x.see(2, 6);
        Checks.due("lied: the third is not", x.lied(0), 0);
        Checks.due("true: the third is not", x.lied(1), 0);
        x.see(-1, 0);
        x.see(1, 1);
        Checks.due("lied: house 2", x.lied(0), 4);
        Checks.due("true: not", x.lied(1), 0);
        x.see(1, 5);
        Checks.due("lied: one house seen as two numbers", x.lied(0), 0);
        x = Checks.town(0, 0, 40, 0, 0, 30, 5, 0, 50);
        x.see(1, 40);
        Checks.due("a lying one lies now", x.of(1, 4), 30);
        Checks.due("true: all said what they earn", x.lied(1), 1);
        Checks.due("lied: if that one said 0, all others what they earn", x.lied(0), 2);
        x.see(-1, 0);
        x.see(1, 30);
        Checks.due("true: as it lies", x.lied(1), 0);
        Checks.due("lied: one of the two", x.lied(0), 5);
        x = Checks.town(3, 0, 20, 0, 0, 10, 0, 0, 30);
        x.see(0, 10);
        Checks.due("lied: by a wide one", x.lied(0), 4);
        x = Checks.plain(1, 2, 3, 4, 5, 6, 7);
        x.see(6, 7);
        x.see(4, 5);
        Checks.due("lied: all of seven but house 5", x.lied(0), 127 - 32);
        x = Checks.plain(9, 0, 5);
        x.see(1, 0);
        Checks.due("lied: said 0, not 1", x.lied(0), 5);
        x = Checks.town(3, 0, 5, 0, 0, 7);
        Checks.street(x, "add 1 h=0");
        x.see(0, 1);
        Checks.due("lied: said 0, not less", x.lied(0), 2);
        x = Checks.plain(1, 9, 5);
        Checks.street(x, "add 3 h=1&y=1");
        x.see(1, 8);
        Checks.due("true: year 0", x.lied(1), 0);
        x.year();
        x.earn(1, 9);
        Checks.due("true: year 1", x.lied(1), 1);
        Checks.earned("lied changes nothing", x, 1, 9, 5);
    }

    static void p21_wed() {
        MiddleThree x = Checks.plain(10, 21);
        Checks.due("wed: both earn 15", x.wed(0, 1), 2);
        Checks.due("wed: both earn 15", x.wed(1, 0), 2);
        Checks.due("wed oneself", x.wed(1, 1), -2);
        Checks.due("wed: house -1", x.wed(-1, 0), -1);
        Checks.due("wed: house 2", x.wed(0, 2), -1);
        Checks.due("wed: none ahead of bad", x.wed(2, 2), -1);
        Checks.earned("wed changes nothing", x, 10, 21);
        x.earn(1, 11);
        Checks.due("wed: cut", x.wed(0, 1), 1);
        x.earn(1, 10);
        Checks.due("wed: the same", x.wed(0, 1), 0);
        // the ends come to 5 both, and by them the middle one
        Checks.due("wed: others too", Checks.plain(1, 20, 9).wed(0, 2), 3);
        // 40 30 20: all stays without; with 35 35 20 too
        Checks.due("wed two of three", Checks.plain(40, 30, 20).wed(0, 1), 2);
        // house 0 stays at 99 without; with that it is 88, 98 behind 10 years, 99 behind 11
        x = Checks.plain(99, 77);
        Checks.street(x, "add 1 h<2");
        Checks.due("wed: behind 10 years, not 11", x.wed(0, 1), 2);
        Checks.due("wed: the same again", x.wed(0, 1), 2);
        // by the wedding all earn 25, so none earns more than house 2 in year 9
        x = Checks.plain(30, 20, 25);
        Checks.street(x, "add 5 h=2&y=9&b=0");
        Checks.due("wed: behind 10 years, not 9", x.wed(0, 1), 2);
        x = Checks.plain(10, 10, 5);
        Checks.street(x, "add 1 h=2");
        Checks.due("wed: both runs begin now", x.wed(0, 1), 0);
        x = Checks.plain(10, 10, 10, 10, 10, 10, 20);
        Checks.due("wed of seven", x.wed(0, 6), 2);
    }
}
