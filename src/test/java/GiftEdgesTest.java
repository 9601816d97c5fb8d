/** The edges of promises 13 to 17: gift, best, lots, build, down. */
public final class GiftEdgesTest {
    public static void main(String[] args) {
        Checks.run(GiftEdgesTest.class);
        Checks.finish();
    }

    private static MiddleThree with(String text, int... earned) {
        MiddleThree x = Checks.plain(earned);
        Checks.due(text, Checks.street(x, text), 0);
        return x;
    }

    // ---- 13: GIFT: what 0 that one, 1 all. -1001: NONE; -1002: BAD: n.

    static void p13_houseBelow0() {
        Checks.due("house -1", Checks.plain(5).gift(-1, 5, 0), -1001);
        Checks.due("least house", Checks.plain(5).gift(Integer.MIN_VALUE, 5, 1), -1001);
    }

    static void p13_houseBeyondTheLast() {
        Checks.due("house 0 of none", new MiddleThree().gift(0, 5, 1), -1001);
        Checks.due("house 1 of one", Checks.plain(5).gift(1, 5, 0), -1001);
        MiddleThree x = Checks.plain(1, 2, 3, 4, 5, 6, 7);
        Checks.due("house 6 of seven", x.gift(6, 5, 0), 5);
        Checks.due("house 7 of seven", x.gift(7, 5, 0), -1001);
    }

    static void p13_whatBelow0() {
        Checks.due("what -1", Checks.plain(5).gift(0, 5, -1), -1001);
        Checks.due("least what", Checks.plain(5).gift(0, 5, Integer.MIN_VALUE), -1001);
    }

    static void p13_whatAbove1() {
        Checks.due("what 2", Checks.plain(5).gift(0, 5, 2), -1001);
        Checks.due("greatest what", Checks.plain(5).gift(0, 5, Integer.MAX_VALUE), -1001);
    }

    static void p13_nBelow0() {
        Checks.due("n -1", Checks.plain(5).gift(0, -1, 0), -1002);
        Checks.due("least n", Checks.plain(5).gift(0, Integer.MIN_VALUE, 1), -1002);
    }

    static void p13_nAbove99() {
        Checks.due("n 100", Checks.plain(5).gift(0, 100, 0), -1002);
        Checks.due("greatest n", Checks.plain(5).gift(0, Integer.MAX_VALUE, 1), -1002);
    }

    static void p13_n0And99() {
        Checks.due("n 0", Checks.plain(5).gift(0, 0, 0), 0);
        Checks.due("n 0, all", Checks.plain(5).gift(0, 0, 1), 0);
        Checks.due("n 99", Checks.plain(0).gift(0, 99, 0), 99);
        Checks.due("n 99, all", Checks.plain(0).gift(0, 99, 1), 99);
    }

    static void p13_99AtMost() {
        Checks.due("98 and 1", Checks.plain(98).gift(0, 1, 0), 1);
        Checks.due("98 and 2", Checks.plain(98).gift(0, 2, 0), 1);
        Checks.due("99 and 99", Checks.plain(99).gift(0, 99, 0), 0);
    }

    static void p13_noneAheadOfBad() {
        Checks.due("house 1 of one, n 100", Checks.plain(5).gift(1, 100, 0), -1001);
        Checks.due("what 2, n -1", Checks.plain(5).gift(0, -1, 2), -1001);
    }

    static void p13_mayBeBelow0() {
        Checks.due("that one", with("tax 99 e>4", 49).gift(0, 1, 0), -49);
        Checks.due("all", with("tax 99 e>4", 49, 20).gift(0, 1, 1), -49);
        // that one has 90 by it instead of 0, the other 0 instead of 60
        Checks.due("another one", with("tax 99 b>0", 40, 60).gift(0, 50, 1), 30);
        Checks.due("all seven come to 0", with("tax 99 b>0", 98, 98, 98, 98, 98, 98, 98).gift(3, 1, 1), -686);
    }

    static void p13_allOfOthersToo() {
        // house 1 comes to what house 0 earns, as house 2 earns more
        MiddleThree x = Checks.plain(10, 10, 99);
        Checks.due("that one", x.gift(0, 30, 0), 30);
        Checks.due("all", x.gift(0, 30, 1), 60);
    }

    static void p13_behind40Years() {
        // without it 40 behind 40 years, with it 91 but for the bound of 90
        MiddleThree x = with("add 1 h=0&e<9", 0);
        Checks.due("49", x.gift(0, 49, 0), 49);
        Checks.due("50", x.gift(0, 50, 0), 50);
        Checks.due("51", x.gift(0, 51, 0), 50);
        Checks.due("51, all", x.gift(0, 51, 1), 50);
    }

    // ---- 14: BEST GIFT; -5. BAD: n.

    static void p14_nBelow0() {
        Checks.due("n -1", Checks.plain(5).best(-1), -2);
        Checks.due("least n", Checks.plain(5).best(Integer.MIN_VALUE), -2);
    }

    static void p14_nAbove99() {
        Checks.due("n 100", Checks.plain(5).best(100), -2);
        Checks.due("greatest n", Checks.plain(5).best(Integer.MAX_VALUE), -2);
    }

    static void p14_n0And99() {
        Checks.due("n 0", Checks.plain(5, 6).best(0), 0);
        Checks.due("n 99", Checks.plain(50, 6).best(99), 1);
    }

    static void p14_withoutHouses() {
        Checks.due("there is none", new MiddleThree().best(5), -5);
    }

    static void p14_badAheadOfNone() {
        Checks.due("n 100 without houses", new MiddleThree().best(100), -2);
        Checks.due("n -1 without houses", new MiddleThree().best(-1), -2);
    }

    static void p14_ofSeveralTheFirst() {
        Checks.due("two alike", Checks.plain(10, 20).best(9), 0);
        Checks.due("the two in the middle alike", Checks.plain(99, 10, 10, 20).best(9), 1);
        Checks.due("the last alone", with("tax 99 h=0", 10, 30, 30).best(9), 2);
        Checks.due("seven alike", Checks.plain(5, 5, 5, 5, 5, 5, 5).best(0), 0);
    }

    static void p14_thoughAllComeTo0() {
        Checks.due("the first", with("tax 99 h<7", 40, 30).best(5), 0);
    }

    static void p14_99AtMost() {
        Checks.due("98 and 2", Checks.plain(98, 97).best(2), 1);
        Checks.due("97 and 2", Checks.plain(97, 97).best(2), 0);
    }

    static void p14_aGiftThatHurts() {
        Checks.due("not the one that is taxed by it", with("tax 99 e>4", 49, 10).best(1), 1);
        Checks.due("if all are, the first of those by which most is left", with("tax 99 e>4", 49, 49).best(1), 0);
    }

    static void p14_behind40Years() {
        // house 0 comes to 40 more, 90 at most
        Checks.due("90 behind 40 years", with("add 1 h=0&e<9", 0, 10).best(50), 0);
        Checks.due("90 behind 39 years", with("add 1 h=0&e<9", 1, 10).best(50), 1);
    }

    // ---- 15: LOTS: 10 times the lesser, and the other; -5.

    static void p15_withoutAPair() {
        Checks.due("no house", new MiddleThree().lots(), -5);
        Checks.due("one house", Checks.plain(5).lots(), -5);
    }

    static void p15_onlyIfThatIsMore() {
        Checks.due("the same", Checks.plain(4, 9).lots(), -5);
        Checks.due("less", Checks.plain(5, 1, 9).lots(), -5);
        Checks.due("more by 1", with("tax 1 h=0&e=1", 10, 9).lots(), 1);
    }

    static void p15_10TimesTheLesserAndTheOther() {
        Checks.due("0 and 1", Checks.plain(1, 5, 9).lots(), 1);
        Checks.due("1 and 2", Checks.plain(5, 9, 1).lots(), 12);
        Checks.due("5 and 6", Checks.plain(5, 5, 5, 5, 5, 9, 1).lots(), 56);
        Checks.due("0 and 2", with("tax 99 h=0&e=1;tax 99 h=2&e=3", 10, 20, 30).lots(), 2);
        Checks.due("0 and 6", with("tax 99 h=0&e=1;tax 99 h=6&e=3", 10, 20, 20, 20, 20, 20, 30).lots(), 6);
    }

    static void p15_ofSeveralTheFirstByTheLesser() {
        // 11 by 0 and 1, and by 1 and 2
        Checks.due("0 and 1", Checks.plain(1, 9, 1).lots(), 1);
    }

    static void p15_ofSeveralTheFirstByTheOther() {
        // 36 by 0 and 1, and by 0 and 2
        Checks.due("0 and 1", Checks.plain(1, 9, 9, 9).lots(), 1);
    }

    static void p15_allMostNotTheFirstThatIsMore() {
        // without 31; 35 by 0 and 5, and by 1 and 6; 39 by 5 and 6
        Checks.due("5 and 6", Checks.plain(5, 5, 5, 5, 5, 9, 1).lots(), 56);
    }

    static void p15_whatTheyEarnAloneChanges() {
        // kinds, v and rows stay: the proud one has 45 at least wherever 0 is
        Checks.due("0 and 1", Checks.town(1, 9, 50, 0, 0, 10).lots(), 1);
        Checks.due("none", Checks.town(1, 9, 10, 0, 0, 50).lots(), -5);
    }

    static void p15_behind20Years() {
        String text = "add 1 h=0;tax 99 h=0&e=3";
        Checks.due("30 just behind 20 years is not yet taxed", with(text, 10, 9).lots(), -5);
        Checks.due("30 behind 19 years is", with(text, 11, 9).lots(), 1);
    }

    // ---- 16: BUILD: what 0 the place, 1 how much. NONE: kind, what; BAD: v, earns; -9.

    static void p16_kindBelow0() {
        Checks.due("kind -1", Checks.plain(5).build(-1, 0, 5, 0), -1);
        Checks.due("least kind", Checks.plain(5).build(Integer.MIN_VALUE, 0, 5, 1), -1);
    }

    static void p16_kindAbove6() {
        Checks.due("kind 7", Checks.plain(5).build(7, 0, 5, 0), -1);
        Checks.due("greatest kind", Checks.plain(5).build(Integer.MAX_VALUE, 0, 5, 1), -1);
    }

    static void p16_whatBelow0() {
        Checks.due("what -1", Checks.plain(5).build(0, 0, 5, -1), -1);
        Checks.due("least what", Checks.plain(5).build(0, 0, 5, Integer.MIN_VALUE), -1);
    }

    static void p16_whatAbove1() {
        Checks.due("what 2", Checks.plain(5).build(0, 0, 5, 2), -1);
        Checks.due("greatest what", Checks.plain(5).build(0, 0, 5, Integer.MAX_VALUE), -1);
    }

    static void p16_vBelow0() {
        Checks.due("v -1", Checks.plain(5).build(0, -1, 5, 0), -2);
        Checks.due("least v", Checks.plain(5).build(0, Integer.MIN_VALUE, 5, 0), -2);
    }

    static void p16_vAbove9() {
        Checks.due("v 10", Checks.plain(5).build(0, 10, 5, 0), -2);
        Checks.due("greatest v", Checks.plain(5).build(0, Integer.MAX_VALUE, 5, 0), -2);
    }

    static void p16_earnsBelow0() {
        Checks.due("earns -1", Checks.plain(5).build(0, 0, -1, 0), -2);
        Checks.due("least earns", Checks.plain(5).build(0, 0, Integer.MIN_VALUE, 0), -2);
    }

    static void p16_earnsAbove99() {
        Checks.due("earns 100", Checks.plain(5).build(0, 0, 100, 0), -2);
        Checks.due("greatest earns", Checks.plain(5).build(0, 0, Integer.MAX_VALUE, 0), -2);
    }

    static void p16_kindVAndEarnsAtTheirBounds() {
        Checks.due("kind 0, v 0, earns 0", Checks.plain(5).build(0, 0, 0, 1), 5);
        Checks.due("kind 1, v 9, earns 0", Checks.plain(5).build(1, 9, 0, 1), 50);
        Checks.due("kind 6, v 9, earns 99", Checks.plain(5).build(6, 9, 99, 1), 10);
        Checks.due("kind 0, earns 99", Checks.plain(5).build(0, 0, 99, 1), 104);
    }

    static void p16_sixAtMostNow() {
        Checks.due("six", Checks.plain(5, 5, 5, 5, 5, 5).build(0, 0, 5, 1), 35);
        Checks.due("seven", Checks.plain(5, 5, 5, 5, 5, 5, 5).build(0, 0, 5, 0), -9);
        Checks.due("seven, how much", Checks.plain(5, 5, 5, 5, 5, 5, 5).build(0, 0, 5, 1), -9);
    }

    static void p16_noneAheadOfBad() {
        Checks.due("kind 7, v 10", Checks.plain(5).build(7, 10, 5, 0), -1);
        Checks.due("what 2, earns 100", Checks.plain(5).build(0, 0, 100, 2), -1);
    }

    static void p16_noneAheadOfSeven() {
        Checks.due("kind 7", Checks.plain(5, 5, 5, 5, 5, 5, 5).build(7, 0, 5, 0), -1);
        Checks.due("what 2", Checks.plain(5, 5, 5, 5, 5, 5, 5).build(0, 0, 5, 2), -1);
    }

    static void p16_badAheadOfSeven() {
        Checks.due("v 10", Checks.plain(5, 5, 5, 5, 5, 5, 5).build(0, 10, 5, 0), -2);
        Checks.due("earns -1", Checks.plain(5, 5, 5, 5, 5, 5, 5).build(0, 0, -1, 0), -2);
    }

    static void p16_theFirstOfAll() {
        Checks.due("the place", new MiddleThree().build(0, 0, 7, 0), 0);
        Checks.due("how much", new MiddleThree().build(0, 0, 7, 1), 7);
    }

    static void p16_between() {
        // 30 at place 0, 40 at place 1, 20 at place 2
        Checks.due("the place", Checks.plain(10, 20).build(0, 0, 0, 0), 1);
        Checks.due("how much", Checks.plain(10, 20).build(0, 0, 0, 1), 40);
    }

    static void p16_behindAll() {
        // the first is taxed, so the new one should be the last to keep its 99
        Checks.due("behind one", with("tax 99 h=0", 10).build(0, 0, 30, 0), 1);
        Checks.due("behind six", with("tax 99 h=0", 9, 9, 9, 9, 9, 9).build(0, 0, 99, 0), 6);
        Checks.due("behind six, how much", with("tax 99 h=0", 9, 9, 9, 9, 9, 9).build(0, 0, 99, 1), 144);
    }

    static void p16_thoseFromThatOnHaveNumbers1More() {
        // at place 0 the new one is taxed and the other, now 1, is not
        Checks.due("the place", with("tax 99 h=0", 10).build(0, 0, 5, 0), 0);
        Checks.due("how much", with("tax 99 h=0", 10).build(0, 0, 5, 1), 10);
    }

    static void p16_ofSeveralTheFirst() {
        Checks.due("before or behind", Checks.plain(7).build(0, 0, 5, 0), 0);
        Checks.due("anywhere", Checks.plain(5, 5, 5).build(0, 0, 5, 0), 0);
        // 6 at place 0, where a proud one is taxed, 16 at places 1 and 2
        Checks.due("the last two alike", with("tax 99 h=0&k=1", 3, 3).build(1, 2, 3, 0), 1);
    }

    static void p16_thoughAllComeTo0() {
        Checks.due("the first place", with("tax 99 h<9", 10).build(0, 0, 5, 0), 0);
        Checks.due("how much", with("tax 99 h<9", 10).build(0, 0, 5, 1), 0);
    }

    static void p16_itsRowAll0() {
        // the one that stands takes the most it sees, the new one the least, 5
        MiddleThree x = Checks.town(6, 0, 5, 0, 0, 50);
        Checks.row(x, 0, 4, 4, 4, 4);
        Checks.due("the place", x.build(6, 0, 40, 0), 0);
        Checks.due("how much", x.build(6, 0, 40, 1), 105);
    }

    static void p16_allThatIsTheirsGoesAlong() {
        // at place 0 the new one is taxed to 0, the told one, now 1, takes the most, 50
        MiddleThree x = Checks.town(6, 0, 5, 0, 0, 50);
        Checks.row(x, 0, 4, 4, 4, 4);
        Checks.street(x, "tax 99 h=0");
        Checks.due("the place", x.build(0, 0, 30, 0), 0);
        Checks.due("how much", x.build(0, 0, 30, 1), 100);
        // at place 0 the three proud ones behind keep their v: 5, 25 and 45
        x = Checks.town(1, 1, 0, 1, 5, 0, 1, 9, 0);
        Checks.street(x, "tax 99 k=0");
        Checks.due("the place", x.build(0, 0, 0, 0), 0);
        Checks.due("how much", x.build(0, 0, 0, 1), 75);
    }

    static void p16_rowsGoAlongPartByPart() {
        // the told one takes the most by one part alone, which tells behind 20 years if it is of the year ahead
        for (int part = 0; part <= 3; part++) {
            for (int years = 0; years <= 3; years++) {
                MiddleThree x = Checks.town(6, 0, 5, 0, 0, 50);
                x.row(0, part, 4);
                Checks.street(x, "tax 99 h=0");
                Checks.years(x, years);
                x.earn(0, 5);
                x.earn(1, 50);
                // at place 0: the new one is taxed to 0, the least the told one sees, 50 the most
                boolean tells = (years + 19) % 4 == part;
                Checks.due("part " + part + ", year " + years, x.build(0, 0, 30, 1), tells ? 100 : 80);
            }
        }
    }

    static void p16_behind20Years() {
        Checks.due("20 and 50", with("add 1 e<9", 0).build(0, 0, 30, 1), 70);
    }

    // ---- 17: DOWN: what 0 which, 1 how much; -5. NONE.

    static void p17_whatBelow0() {
        Checks.due("what -1", Checks.plain(5).down(-1), -1);
        Checks.due("least what", Checks.plain(5).down(Integer.MIN_VALUE), -1);
    }

    static void p17_whatAbove1() {
        Checks.due("what 2", Checks.plain(5).down(2), -1);
        Checks.due("greatest what", Checks.plain(5).down(Integer.MAX_VALUE), -1);
    }

    static void p17_withoutHouses() {
        Checks.due("which", new MiddleThree().down(0), -5);
        Checks.due("how much", new MiddleThree().down(1), -5);
    }

    static void p17_noneThoughThereIsNoHouse() {
        Checks.due("what 2", new MiddleThree().down(2), -1);
        Checks.due("what -1", new MiddleThree().down(-1), -1);
    }

    static void p17_oneHouse() {
        Checks.due("which", Checks.plain(5).down(0), 0);
        Checks.due("how much", Checks.plain(5).down(1), 0);
    }

    static void p17_theLast() {
        Checks.due("which", Checks.plain(9, 5, 1).down(0), 2);
        Checks.due("how much", Checks.plain(9, 5, 1).down(1), 14);
        Checks.due("which of seven", Checks.plain(9, 9, 9, 9, 9, 9, 1).down(0), 6);
    }

    static void p17_ofSeveralTheFirst() {
        Checks.due("all alike", Checks.plain(5, 5, 5).down(0), 0);
        Checks.due("the last two alike", Checks.plain(9, 1, 1).down(0), 1);
    }

    static void p17_thoseBehindHaveNumbers1Less() {
        // without house 0 the next one is 0 and is taxed
        Checks.due("which", with("tax 99 h=0", 10, 20, 30).down(0), 0);
        Checks.due("how much", with("tax 99 h=0", 10, 20, 30).down(1), 30);
    }

    static void p17_allThatIsTheirsGoesAlong() {
        // without house 0 the proud ones have 5, 25 and 45
        Checks.due("v", Checks.town(0, 0, 0, 1, 1, 0, 1, 5, 0, 1, 9, 0).down(1), 75);
        // without house 1 the told one takes the most, 60
        MiddleThree x = Checks.town(0, 0, 60, 0, 0, 1, 6, 0, 5);
        Checks.row(x, 2, 4, 4, 4, 4);
        Checks.due("the row, which", x.down(0), 1);
        Checks.due("the row, how much", x.down(1), 120);
    }

    static void p17_rowsGoAlongPartByPart() {
        // without house 0 the told one sees 0 and 45, and takes 45 by one part alone; without itself there are 45
        for (int part = 0; part <= 3; part++) {
            for (int years = 0; years <= 3; years++) {
                MiddleThree x = Checks.town(2, 0, 0, 2, 0, 0, 1, 9, 45, 6, 0, 5);
                x.row(3, part, 4);
                Checks.years(x, years);
                x.earn(3, 5);
                boolean tells = (years + 19) % 4 == part;
                Checks.due("which, part " + part + ", year " + years, x.down(0), 0);
                Checks.due("how much, part " + part + ", year " + years, x.down(1), tells ? 90 : 45);
            }
        }
    }

    static void p17_behind20Years() {
        Checks.due("50 without house 0", with("add 1 e<9", 0, 30).down(1), 50);
    }
}
