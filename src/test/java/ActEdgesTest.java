/** The edges of promises 26 to 32: judge, image, undo, act, trace, taken, count. */
public final class ActEdgesTest {
    public static void main(String[] args) {
        Checks.run(ActEdgesTest.class);
        Checks.finish();
    }

    /** Tape 0 becomes a row of shorts. */
    private static MiddleThree shorts(MiddleThree x, long... items) {
        Checks.due("tape", x.tape(0, 1, items.length), 1);
        for (int i = 0; i < items.length; i++) {
            x.item(0, i, items[i]);
        }
        return x;
    }

    // ---- 26: JUDGED from place i of a TAPE on. NONE: tape; CAST: it is no row of shorts.

    static void p26_tapeBelow0() {
        Checks.due("tape -1", Checks.plain(5).judge(-1, 0), -1);
        Checks.due("least tape", Checks.plain(5).judge(Integer.MIN_VALUE, 0), -1);
        Checks.due("tape -1 without houses", new MiddleThree().judge(-1, 0), -1);
    }

    static void p26_tapeAbove5() {
        Checks.due("tape 5", Checks.plain(5).judge(5, 0), 100);
        Checks.due("tape 6", Checks.plain(5).judge(6, 0), -1);
        Checks.due("greatest tape", Checks.plain(5).judge(Integer.MAX_VALUE, 0), -1);
    }

    static void p26_anotherSort() {
        for (int sort : new int[] {0, 2, 3, 4}) {
            MiddleThree x = Checks.plain(1);
            x.tape(0, sort, 3);
            x.item(0, 0, 1);
            Checks.due("sort " + sort, x.judge(0, 0), -12);
            Checks.due("sort " + sort + ", place -1", x.judge(0, -1), -12);
            Checks.due("sort " + sort + ", place 3", x.judge(0, 3), -12);
        }
    }

    static void p26_anotherSortWithoutHouses() {
        MiddleThree x = new MiddleThree();
        x.tape(0, 0, 3);
        Checks.due("bytes", x.judge(0, 0), -12);
    }

    static void p26_noneToLookAt() {
        Checks.due("nothing there", new MiddleThree().judge(0, 0), -5);
        Checks.due("nothing there, place -1", new MiddleThree().judge(0, -1), -5);
        Checks.due("a row of none", shorts(new MiddleThree()).judge(0, 0), -5);
        Checks.due("a row of two, place 9", shorts(new MiddleThree(), 1, 2).judge(0, 9), -5);
    }

    static void p26_tapeHoldsNothing() {
        Checks.due("nothing there", Checks.plain(5).judge(0, 0), 100);
        MiddleThree x = shorts(Checks.plain(5), 5);
        x.tape(0, -1, 0);
        Checks.due("nothing there again", x.judge(0, 0), 100);
    }

    static void p26_placeBelow0() {
        Checks.due("place -1", shorts(Checks.plain(5), 5, 5).judge(0, -1), 100);
        Checks.due("least place", shorts(Checks.plain(5), 5, 5).judge(0, Integer.MIN_VALUE), 100);
    }

    static void p26_placeAtTheEndAndBeyond() {
        Checks.due("the last place", shorts(Checks.plain(5), 6, 5).judge(0, 1), -5);
        Checks.due("the end", shorts(Checks.plain(5), 5, 5).judge(0, 2), 100);
        Checks.due("beyond it", shorts(Checks.plain(5), 5, 5).judge(0, 3), 100);
        Checks.due("greatest place", shorts(Checks.plain(5), 5, 5).judge(0, Integer.MAX_VALUE), 100);
        Checks.due("a row of none", shorts(Checks.plain(5)).judge(0, 0), 100);
    }

    static void p26_theRowEndsAhead() {
        int[] earned = {1, 2, 3, 4, 5, 6, 7};
        for (int size = 0; size <= 6; size++) {
            MiddleThree x = Checks.plain(earned);
            shorts(x, new long[size]);
            for (int i = 0; i < size; i++) {
                x.item(0, i, i + 1);
            }
            Checks.due("a row of " + size, x.judge(0, 0), 100 + size);
        }
    }

    static void p26_theRowEndsAheadFromAPlaceOn() {
        Checks.due("two looked at", shorts(Checks.plain(5, 6, 7), 0, 0, 0, 5, 6).judge(0, 3), 102);
        Checks.due("one looked at", shorts(Checks.plain(6, 6, 7), 0, 0, 0, 5, 6).judge(0, 4), 101);
    }

    static void p26_otherwiseAheadOfTheEnd() {
        Checks.due("the second house", shorts(Checks.plain(5, 6, 7), 5, 9).judge(0, 0), 1);
    }

    static void p26_noneIsOtherwise() {
        Checks.due("just so many", shorts(Checks.plain(5, 6, 7), 5, 6, 7).judge(0, 0), -5);
        Checks.due("more behind", shorts(Checks.plain(5, 6, 7), 5, 6, 7, 99).judge(0, 0), -5);
        Checks.due("from place 2 on", shorts(Checks.plain(5, 6, 7), 1, 1, 5, 6, 7).judge(0, 2), -5);
        Checks.due("0 and 99", shorts(Checks.plain(0, 99), 0, 99).judge(0, 0), -5);
    }

    static void p26_theFirstThatIsOtherwise() {
        Checks.due("house 0", shorts(Checks.plain(5, 6, 7), 4, 5, 6).judge(0, 0), 0);
        Checks.due("house 1", shorts(Checks.plain(5, 6, 7), 5, 5, 6).judge(0, 0), 1);
        Checks.due("house 2", shorts(Checks.plain(5, 6, 7), 5, 6, 6).judge(0, 0), 2);
        Checks.due("house 2, from place 2 on", shorts(Checks.plain(5, 6, 7), 1, 1, 5, 6, 6).judge(0, 2), 2);
    }

    static void p26_theSixtiethItem() {
        MiddleThree x = Checks.plain(5);
        x.tape(5, 1, 60);
        x.item(5, 59, 5);
        Checks.due("place 59", x.judge(5, 59), -5);
        Checks.due("place 60", x.judge(5, 60), 100);
    }

    // ---- 27: THE IMAGE is taken: how many HOUSES there are.

    static void p27_ofNoneAndOfSeven() {
        Checks.due("none", new MiddleThree().image(), 0);
        Checks.due("seven", Checks.plain(1, 1, 1, 1, 1, 1, 1).image(), 7);
    }

    static void p27_theLatestAlone() {
        MiddleThree x = Checks.plain(5);
        Checks.due("the first", x.image(), 1);
        x.house(0, 0, 6);
        x.earn(0, 9);
        Checks.due("the second", x.image(), 2);
        x.earn(0, 1);
        Checks.due("undo", x.undo(), 2);
        Checks.earned("the second", x, 9, 6);
    }

    static void p27_nothingElseIsChanged() {
        MiddleThree x = Checks.rich();
        String before = Checks.state(x);
        Checks.due("image()", x.image(), 4);
        Checks.same("all", Checks.state(x), before);
    }

    // ---- 28: All is as THE IMAGE: how many HOUSES. STATE: there is none.

    static void p28_thereIsNone() {
        MiddleThree x = Checks.plain(5);
        Checks.due("undo()", x.undo(), -3);
        Checks.earned("as before", x, 5);
    }

    static void p28_toNoHouses() {
        MiddleThree x = new MiddleThree();
        x.image();
        x.house(0, 0, 5);
        Checks.due("undo()", x.undo(), 0);
        Checks.due("count(0)", x.count(0), 0);
        Checks.due("of(0, 0)", x.of(0, 0), -1);
    }

    static void p28_toSevenHouses() {
        MiddleThree x = Checks.plain(1, 2, 3, 4, 5, 6, 7);
        x.image();
        for (int h = 0; h <= 6; h++) {
            x.earn(h, 50);
        }
        Checks.due("undo()", x.undo(), 7);
        Checks.earned("all seven", x, 1, 2, 3, 4, 5, 6, 7);
    }

    static void p28_asOftenAsOneLikes() {
        MiddleThree x = Checks.plain(5);
        x.image();
        for (int i = 0; i < 3; i++) {
            x.earn(0, 9);
            x.year();
            Checks.due("undo()", x.undo(), 1);
            Checks.earned("as the image", x, 5);
            Checks.due("year", x.told(0), 0);
        }
    }

    static void p28_housesWithAllThatIsTheirs() {
        MiddleThree x = Checks.town(6, 3, 50, 5, 7, 20);
        Checks.row(x, 0, 4, 3, 2, 1);
        x.image();
        Checks.row(x, 0, 0, 0, 0, 0);
        x.earn(0, 1);
        x.earn(1, 1);
        x.house(1, 1, 1);
        x.undo();
        int[][] due = {{6, 3, 50}, {5, 7, 20}};
        for (int h = 0; h <= 1; h++) {
            for (int what = 0; what <= 2; what++) {
                Checks.due("of(" + h + ", " + what + ")", x.of(h, what), due[h][what]);
            }
        }
        for (int part = 0; part <= 3; part++) {
            Checks.due("part " + part, x.row(0, part, 0), 4 - part);
        }
    }

    static void p28_rowsOfSevenHouses() {
        MiddleThree x = Checks.town(6, 0, 5, 6, 0, 5, 6, 0, 5, 6, 0, 5, 6, 0, 5, 6, 0, 5, 6, 0, 5);
        for (int h = 0; h <= 6; h++) {
            Checks.row(x, h, h % 5, 4, (h + 1) % 5, (h + 2) % 5);
        }
        x.image();
        for (int h = 0; h <= 6; h++) {
            Checks.row(x, h, 0, 0, 0, 0);
        }
        x.undo();
        for (int h = 0; h <= 6; h++) {
            int[] due = {h % 5, 4, (h + 1) % 5, (h + 2) % 5};
            for (int part = 0; part <= 3; part++) {
                Checks.due("house " + h + ", part " + part, x.row(h, part, 0), due[part]);
            }
        }
    }

    static void p28_aHouseThatComesBehindAnUndoIsNew() {
        MiddleThree x = Checks.plain(5);
        x.image();
        x.house(6, 9, 9);
        Checks.row(x, 1, 4, 4, 4, 4);
        x.undo();
        Checks.due("its number", x.house(6, 1, 1), 1);
        Checks.due("its v", x.of(1, 1), 1);
        for (int part = 0; part <= 3; part++) {
            Checks.due("part " + part, x.row(1, part, 0), 0);
        }
    }

    static void p28_theImageIsNotChangedByWhatComesBehindAnUndo() {
        MiddleThree x = Checks.town(6, 3, 50);
        x.image();
        x.undo();
        Checks.row(x, 0, 4, 4, 4, 4);
        x.earn(0, 7);
        x.see(0, 1);
        x.book(1);
        x.undo();
        Checks.earned("as the image", x, 50);
        Checks.due("count(2)", x.count(2), 0);
        Checks.due("count(3)", x.count(3), 0);
        for (int part = 0; part <= 3; part++) {
            Checks.due("part " + part, x.row(0, part, 0), 0);
        }
    }

    static void p28_year() {
        MiddleThree x = Checks.plain(5);
        Checks.years(x, 3);
        x.image();
        Checks.years(x, 4);
        x.undo();
        Checks.due("told(0)", x.told(0), 3);
    }

    static void p28_seen() {
        MiddleThree x = Checks.plain(5, 6);
        x.see(0, 5);
        x.image();
        x.see(-1, 0);
        x.see(1, 9);
        x.see(1, 9);
        x.undo();
        Checks.due("count(2)", x.count(2), 1);
        Checks.due("it is so", x.lied(1), 1);
    }

    static void p28_theBook() {
        MiddleThree x = Checks.plain(5);
        x.book(5);
        x.book(-2);
        x.image();
        x.book(-1);
        x.book(9);
        x.undo();
        Checks.due("count(3)", x.count(3), 2);
        Checks.due("it is so", x.looked(), -5);
    }

    static void p28_whichStreetHolds() {
        MiddleThree x = Checks.plain(5);
        x.image();
        Checks.street(x, "add 3 h=0");
        x.undo();
        Checks.due("none", x.of(0, 4), 5);
        Checks.street(x, "ring;add 7 h=0");
        x.image();
        Checks.street(x, "add 9 h=0");
        x.undo();
        Checks.due("street 1", x.of(0, 4), 12);
        Checks.due("its ring", x.told(1), 1);
    }

    static void p28_streetsStay() {
        MiddleThree x = new MiddleThree();
        x.image();
        Checks.street(x, "row");
        x.undo();
        Checks.due("count(1)", x.count(1), 1);
        Checks.due("the next number", Checks.street(x, "row"), 1);
    }

    static void p28_theTextStays() {
        MiddleThree x = new MiddleThree();
        x.image();
        Checks.feed(x, "ro");
        x.undo();
        Checks.due("count(4)", x.count(4), 2);
        x.feed('w');
        Checks.due("row", x.street(), 0);
    }

    static void p28_tapesStay() {
        MiddleThree x = new MiddleThree();
        x.tape(0, 0, 1);
        x.image();
        x.tape(0, 3, 2);
        x.item(0, 1, 77);
        x.undo();
        Checks.due("read(0, 1)", x.read(0, 1), 77);
    }

    static void p28_theTraceStays() {
        MiddleThree x = Checks.plain(5);
        x.image();
        x.act(0, 2, 1);
        x.undo();
        Checks.traced("undo()", x, 12, 11, 10);
    }

    // ---- 29: An ACT (0 earns, 1 says, 2 tells) of a HOUSE with x. 0, and no TRACE then: no such HOUSE, act.

    private static void noAct(int house, int act) {
        MiddleThree x = Checks.plain(5, 5);
        x.act(1, 2, 7);
        Checks.due("act(" + house + ", " + act + ", 7)", x.act(house, act, 7), 0);
        Checks.traced("act(" + house + ", " + act + ", 7)", x);
    }

    static void p29_houseBelow0() {
        noAct(-1, 0);
        noAct(Integer.MIN_VALUE, 2);
    }

    static void p29_houseBeyondTheLast() {
        noAct(2, 0);
        noAct(7, 1);
        noAct(Integer.MAX_VALUE, 2);
        Checks.due("house 0 of none", new MiddleThree().act(0, 0, 7), 0);
        MiddleThree x = Checks.plain(1, 1, 1, 1, 1, 1, 1);
        Checks.due("house 6 of seven", x.act(6, 0, 7), 13);
        Checks.due("house 7 of seven", x.act(7, 0, 7), 0);
    }

    static void p29_actBelow0() {
        noAct(0, -1);
        noAct(0, Integer.MIN_VALUE);
    }

    static void p29_actAbove2() {
        noAct(0, 3);
        noAct(0, Integer.MAX_VALUE);
    }

    static void p29_wrapsWhereItAdds() {
        Checks.due("x + i", Checks.plain(5, 5).act(1, 0, Integer.MAX_VALUE), Integer.MIN_VALUE);
    }

    static void p29_wrapsWhereItTakesAway() {
        // earns(x) - v
        Checks.due("- v", Checks.town(0, 1, 5).act(0, 1, Integer.MIN_VALUE), Integer.MAX_VALUE);
        // x - i by a lying one's tells, then 3 times that, + i, - v, 2 times that: i 1, v 0
        Checks.due("x - i", Checks.town(0, 0, 5, 5, 0, 5).act(1, 2, Integer.MIN_VALUE), (Integer.MAX_VALUE * 3 + 1) * 2);
    }

    static void p29_wrapsWhereItMultiplies() {
        Checks.due("x * 3", Checks.town(2, 0, 5).act(0, 0, 0x60000000), 0x20000000);
        Checks.due("says(x) * 2", Checks.town(0, 0, 5).act(0, 2, 0x50000001), 0xa0000002);
    }

    static void p29_wrapsWhereItNegates() {
        Checks.due("-super.earns(x)", Checks.town(4, 0, 5).act(0, 0, Integer.MIN_VALUE), Integer.MIN_VALUE);
    }

    static void p29_vAndIAtTheirBounds() {
        MiddleThree x = Checks.town(6, 9, 5, 6, 0, 5, 6, 0, 5, 6, 0, 5, 6, 0, 5, 6, 0, 5, 6, 9, 5);
        Checks.due("i 0, v 9: 4 ^ 9", x.act(0, 0, 4), 13);
        Checks.due("i 6, v 9: 10 ^ 9", x.act(6, 0, 4), 3);
        Checks.due("i 1, v 0", x.act(1, 0, 4), 5);
    }

    static void p29_theNextKindAboveThatHasOne() {
        // says of a meek one, a wide one, a lying one; tells of a saint, a told one; earns of a proud one, a wide one
        MiddleThree x = Checks.town(2, 1, 5, 3, 1, 5, 5, 1, 5, 4, 1, 5, 6, 1, 5, 1, 1, 5);
        x.act(0, 1, 4);
        Checks.traced("a meek one says", x, 11, 30, 10);
        x.act(1, 1, 4);
        Checks.traced("a wide one says", x, 11, 10);
        x.act(2, 1, 4);
        Checks.traced("a lying one says", x, 11, 30, 10);
        x.act(2, 0, 4);
        Checks.traced("a lying one earns", x, 30, 10);
        x.act(2, 2, 4);
        Checks.traced("a lying one tells", x, 60, 12, 11, 30, 10);
        x.act(3, 2, 4);
        Checks.traced("a saint tells", x, 12, 51, 20, 11, 50, 10);
        x.act(4, 2, 4);
        Checks.traced("a told one tells", x, 40, 12, 70, 11, 71, 10, 10, 70, 11, 71, 10, 10);
        x.act(5, 0, 4);
        Checks.traced("a proud one earns", x, 10);
        x.act(1, 0, 4);
        Checks.traced("a wide one earns", x, 10);
        x.act(5, 2, 4);
        Checks.traced("a proud one tells", x, 12, 20, 11, 10);
    }

    // ---- 30: THE TRACE's i-th body. NONE.

    static void p30_iBelow0() {
        MiddleThree x = Checks.plain(5);
        x.act(0, 2, 4);
        Checks.due("i -1", x.trace(-1), -1);
        Checks.due("least i", x.trace(Integer.MIN_VALUE), -1);
    }

    static void p30_iBeyondTheLast() {
        MiddleThree x = Checks.plain(5);
        x.act(0, 2, 4);
        Checks.due("i 2 of three", x.trace(2), 10);
        Checks.due("i 3 of three", x.trace(3), -1);
        Checks.due("greatest i", x.trace(Integer.MAX_VALUE), -1);
    }

    static void p30_withoutAnAct() {
        Checks.due("i 0", Checks.plain(5).trace(0), -1);
    }

    static void p30_the20thAndBehind() {
        MiddleThree x = Checks.full();
        Checks.due("i 19", x.trace(19), -1);
        Checks.due("i 20", x.trace(20), -1);
        Checks.due("i 21", x.trace(21), -1);
    }

    static void p30_theLatestActAlone() {
        MiddleThree x = Checks.plain(5);
        x.act(0, 2, 4);
        x.act(0, 0, 4);
        Checks.due("i 0", x.trace(0), 10);
        Checks.due("i 1", x.trace(1), -1);
    }

    static void p30_asTheyBegan() {
        MiddleThree x = Checks.town(3, 0, 5);
        x.act(0, 2, 4);
        Checks.traced("from the left on", x, 40, 12, 11, 10, 11, 10);
    }

    // ---- 31: A HOUSE taken for one of KIND k (0 .. 6), or one under that: its KIND. BAD: k; NOTHING; CAST.

    static void p31_kBelow0() {
        Checks.due("k -1", Checks.plain(5).taken(0, -1), -2);
        Checks.due("least k", Checks.plain(5).taken(0, Integer.MIN_VALUE), -2);
    }

    static void p31_kAbove6() {
        Checks.due("k 7", Checks.plain(5).taken(0, 7), -2);
        Checks.due("greatest k", Checks.plain(5).taken(0, Integer.MAX_VALUE), -2);
    }

    static void p31_houseBelow0() {
        Checks.due("house -1", Checks.plain(5).taken(-1, 0), -11);
        Checks.due("least house", Checks.plain(5).taken(Integer.MIN_VALUE, 0), -11);
    }

    static void p31_houseBeyondTheLast() {
        Checks.due("house 0 of none", new MiddleThree().taken(0, 0), -11);
        Checks.due("house 1 of one", Checks.plain(5).taken(1, 0), -11);
        Checks.due("greatest house", Checks.plain(5).taken(Integer.MAX_VALUE, 6), -11);
        Checks.due("house 6 of seven", Checks.plain(1, 1, 1, 1, 1, 1, 1).taken(6, 0), 0);
        Checks.due("house 7 of seven", Checks.plain(1, 1, 1, 1, 1, 1, 1).taken(7, 0), -11);
    }

    static void p31_badAheadOfNothing() {
        Checks.due("k 7, house 1 of one", Checks.plain(5).taken(1, 7), -2);
        Checks.due("k -1, house -1", Checks.plain(5).taken(-1, -1), -2);
    }

    static void p31_thatKindOrOneUnderIt() {
        String[] taken = {"0", "01", "02", "03", "014", "025", "036"};
        for (int kind = 0; kind <= 6; kind++) {
            for (int k = 0; k <= 6; k++) {
                int due = taken[kind].indexOf('0' + k) >= 0 ? kind : -12;
                Checks.due("kind " + kind + " for " + k, Checks.town(kind, 0, 5).taken(0, k), due);
            }
        }
    }

    // ---- 32: How many: 0 HOUSES .. 5 bodies. BAD.

    static void p32_whatBelow0() {
        Checks.due("what -1", Checks.rich().count(-1), -2);
        Checks.due("least what", Checks.rich().count(Integer.MIN_VALUE), -2);
    }

    static void p32_whatAbove5() {
        Checks.due("what 6", Checks.rich().count(6), -2);
        Checks.due("greatest what", Checks.rich().count(Integer.MAX_VALUE), -2);
    }

    static void p32_noneOfAll() {
        for (int what = 0; what <= 5; what++) {
            Checks.due("what " + what, new MiddleThree().count(what), 0);
        }
    }

    static void p32_allFull() {
        int[] due = {7, 6, 8, 12, 100, 12};
        for (int what = 0; what <= 5; what++) {
            Checks.due("what " + what, Checks.full().count(what), due[what]);
        }
    }

    static void p32_bodiesOfTheLatestAct() {
        MiddleThree x = Checks.plain(5);
        x.act(0, 2, 4);
        Checks.due("three", x.count(5), 3);
        x.act(0, 0, 4);
        Checks.due("one", x.count(5), 1);
        x.act(0, 3, 4);
        Checks.due("no such act", x.count(5), 0);
    }
}
