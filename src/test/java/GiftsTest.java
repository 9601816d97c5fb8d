/** Promises 13 to 17: gift, best, lots, build, down. */
public final class GiftsTest {
    public static void main(String[] args) {
        Checks.run(GiftsTest.class);
        Checks.finish();
    }

    static void p13_gift() {
        MiddleThree x = Checks.plain(10, 95);
        Checks.due("gift", x.gift(0, 30, 0), 30);
        Checks.due("gift, all", x.gift(0, 30, 1), 30);
        Checks.due("gift: 99 at most", x.gift(1, 30, 0), 4);
        Checks.due("gift: 99 at most", x.gift(1, 99, 1), 4);
        Checks.due("gift of 0", x.gift(0, 0, 0), 0);
        Checks.due("gift of 99", x.gift(0, 99, 0), 89);
        Checks.due("gift: house -1", x.gift(-1, 0, 0), -1001);
        Checks.due("gift: house 2", x.gift(2, 0, 0), -1001);
        Checks.due("gift: what -1", x.gift(0, 0, -1), -1001);
        Checks.due("gift: what 2", x.gift(0, 0, 2), -1001);
        Checks.due("gift: n -1", x.gift(0, -1, 0), -1002);
        Checks.due("gift: n 100", x.gift(0, 100, 1), -1002);
        Checks.due("gift: none ahead of bad", x.gift(2, 100, 0), -1001);
        Checks.earned("gift changes nothing", x, 10, 95);
        x = Checks.plain(49);
        Checks.street(x, "tax 99 e>4");
        Checks.due("a gift may hurt", x.gift(0, 1, 0), -49);
        Checks.due("a gift may hurt, all", x.gift(0, 1, 1), -49);
        x = Checks.plain(10, 20);
        Checks.street(x, "tax 99 b>0");
        Checks.due("a gift, for itself", x.gift(0, 50, 0), 60);
        Checks.due("a gift, for all", x.gift(0, 50, 1), 40);
        Checks.due("the middle one's is lost", Checks.plain(5, 5, 5).gift(1, 50, 1), 0);
    }

    static void p14_best() {
        Checks.due("best of none", new MiddleThree().best(0), -5);
        Checks.due("best: bad ahead of none", new MiddleThree().best(100), -2);
        MiddleThree x = Checks.plain(10, 20);
        Checks.due("best: several, the first", x.best(9), 0);
        Checks.due("best: n -1", x.best(-1), -2);
        Checks.due("best: n 100", x.best(100), -2);
        Checks.due("best of 99", x.best(99), 0);
        x.earn(0, 97);
        Checks.due("best: 99 at most", x.best(9), 1);
        Checks.due("best: 99 at most", x.best(2), 0);
        x = Checks.plain(49, 10);
        Checks.street(x, "tax 99 e>4");
        Checks.due("best: not the one that is taxed by it", x.best(1), 1);
        Checks.earned("best changes nothing", x, 49, 10);
        // all at 0 behind 40 years, whoever has the gift
        x = Checks.plain(40, 30);
        Checks.street(x, "tax 99 h=0|h=1");
        Checks.due("best of nothing", x.best(5), 0);
    }

    static void p15_lots() {
        Checks.due("lots of none", new MiddleThree().lots(), -5);
        Checks.due("lots of one", Checks.plain(4).lots(), -5);
        Checks.due("lots of two", Checks.plain(4, 9).lots(), -5);
        Checks.due("lots: 1 5 9 to 5 1 9", Checks.plain(1, 5, 9).lots(), 1);
        Checks.due("lots: 5 9 1 to 5 1 9", Checks.plain(5, 9, 1).lots(), 12);
        Checks.due("lots: several, the first", Checks.plain(1, 9, 1).lots(), 1);
        Checks.due("lots: none is more", Checks.plain(5, 1, 9).lots(), -5);
        MiddleThree x = Checks.plain(10, 20, 30);
        Checks.street(x, "tax 99 h=0&e=1;tax 99 h=2&e=3;add 0 h=0");
        // 20 .. 10 from 10 20 30 by the pair of the ends: house 1 earns 20, the ends 30 and 10
        Checks.due("lots: the ends", x.lots(), 2);
        Checks.earned("lots changes nothing", x, 10, 20, 30);
        // house 2 is taxed while any earns more, house 1 from 20 on
        x = Checks.plain(10, 20, 15);
        Checks.street(x, "tax 99 h=1&e>1;row");
        Checks.due("lots: by kinds and places", x.lots(), 1);
    }

    static void p16_build() {
        MiddleThree x = new MiddleThree();
        Checks.due("build the first", x.build(0, 0, 5, 0), 0);
        Checks.due("build the first", x.build(0, 0, 5, 1), 5);
        Checks.due("build kind -1", x.build(-1, 0, 5, 0), -1);
        Checks.due("build kind 7", x.build(7, 0, 5, 0), -1);
        Checks.due("build what -1", x.build(0, 0, 5, -1), -1);
        Checks.due("build what 2", x.build(0, 0, 5, 2), -1);
        Checks.due("build v -1", x.build(0, -1, 5, 0), -2);
        Checks.due("build v 10", x.build(0, 10, 5, 0), -2);
        Checks.due("build earns -1", x.build(0, 0, -1, 0), -2);
        Checks.due("build earns 100", x.build(0, 0, 100, 0), -2);
        Checks.due("build: none ahead of bad", x.build(0, 10, 5, 2), -1);
        x = Checks.plain(10, 20);
        Checks.due("build: between", x.build(0, 0, 0, 0), 1);
        Checks.due("build: between", x.build(0, 0, 0, 1), 40);
        Checks.due("build: several, the first", Checks.plain(7).build(0, 0, 5, 0), 0);
        x = Checks.plain(10);
        Checks.street(x, "tax 99 h=0");
        Checks.due("build: behind", x.build(0, 0, 30, 0), 1);
        Checks.due("build: behind", x.build(0, 0, 30, 1), 30);
        Checks.due("build: the one behind has 1 more", x.build(0, 0, 5, 0), 0);
        Checks.due("build: the one behind has 1 more", x.build(0, 0, 5, 1), 10);
        Checks.due("build: kind and v", Checks.plain(10).build(1, 9, 0, 1), 55);
        Checks.due("build changes nothing", x.count(0), 1);
        x = Checks.plain(1, 2, 3, 4, 5, 6);
        // 1 2 3 4 5 0 6 comes to 1 2 3 4 4 5 6
        Checks.due("build a seventh", x.build(0, 0, 0, 0), 5);
        Checks.due("build a seventh", x.build(0, 0, 0, 1), 25);
        x.house(0, 0, 7);
        Checks.due("build an eighth", x.build(0, 0, 0, 0), -9);
        Checks.due("build: none ahead of too many", x.build(0, 0, 0, 2), -1);
        Checks.due("build: bad ahead of too many", x.build(0, 0, 100, 0), -2);
    }

    static void p16_buildRows() {
        MiddleThree x = Checks.town(6, 0, 5, 0, 0, 50);
        for (int part = 0; part < 4; part++) {
            x.row(0, part, 4);
        }
        Checks.due("build: rows go along with their houses", x.build(0, 0, 0, 0), 1);
        Checks.due("build: rows go along with their houses", x.build(0, 0, 0, 1), 150);
        // the told one that is built takes the least, 5, the one that stands the most
        Checks.due("build: its row is all 0", x.build(6, 0, 40, 0), 0);
        Checks.due("build: its row is all 0", x.build(6, 0, 40, 1), 105);
        for (int part = 0; part < 4; part++) {
            Checks.due("rows stay", x.row(0, part, 4), 4);
        }
        // the told one ahead of the last comes to be the last but one, or the last, with its row and its v
        x = Checks.town(1, 1, 5, 1, 9, 45, 1, 2, 10, 6, 0, 7, 0, 0, 60);
        for (int part = 0; part < 4; part++) {
            x.row(3, part, 4);
        }
        Model model = new Model();
        for (int h = 0; h < 5; h++) {
            model.house(x.of(h, 0), x.of(h, 1), x.of(h, 2));
        }
        for (int part = 0; part < 4; part++) {
            model.row(3, part, 4);
        }
        for (int n = 0; n <= 99; n += 9) {
            Checks.due("build: all that is theirs", x.build(0, 0, n, 0), model.build(0, 0, n, 0));
            Checks.due("build: all that is theirs", x.build(0, 0, n, 1), model.build(0, 0, n, 1));
            Checks.due("build: another told one", x.build(6, 0, n, 0), model.build(6, 0, n, 0));
            Checks.due("build: another told one", x.build(6, 0, n, 1), model.build(6, 0, n, 1));
        }
    }

    static void p17_down() {
        Checks.due("down of none", new MiddleThree().down(0), -5);
        Checks.due("down of none", new MiddleThree().down(1), -5);
        Checks.due("down: none ahead of that", new MiddleThree().down(2), -1);
        Checks.due("down of one", Checks.plain(5).down(0), 0);
        Checks.due("down of one", Checks.plain(5).down(1), 0);
        MiddleThree x = Checks.plain(1, 5, 9);
        Checks.due("down what -1", x.down(-1), -1);
        Checks.due("down what 2", x.down(2), -1);
        Checks.due("down", x.down(0), 0);
        Checks.due("down", x.down(1), 14);
        x = Checks.plain(9, 5, 1);
        Checks.due("down: the last", x.down(0), 2);
        Checks.due("down: the last", x.down(1), 14);
        Checks.due("down: several, the first", Checks.plain(5, 5, 5).down(0), 0);
        Checks.due("down of seven", Checks.plain(1, 2, 3, 4, 5, 6, 7).down(1), 27);
        x = Checks.plain(10, 20, 30);
        Checks.street(x, "tax 99 h=0");
        Checks.due("down: those behind have 1 less", x.down(1), 30);
        Checks.earned("down changes nothing", x, 10, 20, 30);
        // without house 0 they earn 5, 25 and 45
        Checks.due("down: v goes along", Checks.town(0, 0, 0, 1, 1, 0, 1, 5, 0, 1, 9, 0).down(1), 75);
        // without house 1 the told one earns the most of itself and 60, without house 0 too
        x = Checks.town(0, 0, 60, 0, 0, 1, 6, 0, 5);
        for (int part = 0; part < 4; part++) {
            x.row(2, part, 4);
        }
        Checks.due("down: rows go along with their houses", x.down(0), 1);
        Checks.due("down: rows go along with their houses", x.down(1), 120);
    }
}
