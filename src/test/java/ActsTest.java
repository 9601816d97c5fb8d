/** Promises 26 to 32: judge, image, undo, act, trace, taken, count. */
public final class ActsTest {
    public static void main(String[] args) {
        Checks.run(ActsTest.class);
        Checks.finish();
    }

    static void p26_judge() {
        MiddleThree x = Checks.plain(5, 6, 7);
        Checks.due("judge: tape -1", x.judge(-1, 0), -1);
        Checks.due("judge: tape 6", x.judge(6, 0), -1);
        Checks.due("judge: nothing there", x.judge(0, 0), 100);
        for (int sort : new int[] {0, 2, 3, 4}) {
            x.tape(0, sort, 9);
            Checks.due("judge: sort " + sort, x.judge(0, 0), -12);
        }
        x.tape(0, 1, 5);
        for (int h = 0; h < 3; h++) {
            x.item(0, 2 + h, 5 + h);
        }
        Checks.due("judge: all so", x.judge(0, 2), -5);
        Checks.due("judge: place 1", x.judge(0, 1), 0);
        Checks.due("judge: below 0", x.judge(0, -1), 100);
        Checks.due("judge: far below 0", x.judge(0, Integer.MIN_VALUE), 100);
        Checks.due("judge: place 3", x.judge(0, 3), 0);
        x.shift(0, 2, 0, 0, 3);
        Checks.due("judge: all so from place 0", x.judge(0, 0), -5);
        x.item(0, 2, 5);
        x.item(0, 3, 5);
        x.item(0, 4, 6);
        Checks.due("judge: the row ends behind two", x.judge(0, 3), 102);
        Checks.due("judge: the third house is otherwise", x.judge(0, 2), 1);
        x.item(0, 4, 5);
        Checks.due("judge: the row ends behind one", x.judge(0, 4), 101);
        Checks.due("judge: the row ends at once", x.judge(0, 5), 100);
        Checks.due("judge: beyond its end", x.judge(0, 6), 100);
        Checks.due("judge: far beyond its end", x.judge(0, Integer.MAX_VALUE), 100);
        x.item(0, 3, 6);
        x.item(0, 4, 8);
        Checks.due("judge: the last one is otherwise", x.judge(0, 2), 2);
        x.tape(0, -1, 0);
        x.tape(0, 1, 0);
        Checks.due("judge: a row of none", x.judge(0, 0), 100);
        x = new MiddleThree();
        Checks.due("judge: none to look at", x.judge(0, 0), -5);
        Checks.due("judge: none to look at, below 0", x.judge(0, -1), -5);
        Checks.due("judge: none to look at, tape 6", x.judge(6, 0), -1);
        x.tape(0, 0, 1);
        Checks.due("judge: none to look at, but bytes", x.judge(0, 0), -12);
    }

    static void p27_image() {
        MiddleThree x = new MiddleThree();
        Checks.due("image of none", x.image(), 0);
        x.house(0, 0, 5);
        x.house(0, 0, 6);
        Checks.due("undo to none", x.undo(), 0);
        Checks.due("undo to none", x.count(0), 0);
        x.house(0, 0, 7);
        Checks.due("image of one", x.image(), 1);
        Checks.due("image changes nothing", x.of(0, 2), 7);
        x.house(0, 0, 8);
        Checks.due("image of two", x.image(), 2);
        Checks.due("undo to two", x.undo(), 2);
    }

    static void p28_undo() {
        MiddleThree x = Checks.town(6, 1, 10, 5, 2, 20);
        Checks.due("undo: there is none", x.undo(), -3);
        x.row(0, 2, 3);
        Checks.street(x, "ring;add 1 h=0");
        x.see(0, 10);
        x.book(-2);
        x.book(7);
        Checks.years(x, 3);
        int earned = x.of(0, 2);
        Checks.due("image", x.image(), 2);
        x.row(0, 2, 1);
        x.earn(0, 99);
        x.earn(1, 98);
        x.house(1, 9, 9);
        Checks.due("another street", Checks.street(x, "add 50 h=0"), 1);
        x.see(-1, 0);
        x.see(1, 1);
        x.see(1, 2);
        x.book(-1);
        Checks.years(x, 2);
        Checks.feed(x, "row");
        x.tape(0, 2, 3);
        x.item(0, 1, 77);
        x.act(0, 0, 1);
        for (int again = 0; again < 2; again++) {
            Checks.due("undo", x.undo(), 2);
            Checks.due("undo: houses", x.count(0), 2);
            Checks.due("undo: year", x.told(0), 3);
            Checks.due("undo: kind", x.of(1, 0), 5);
            Checks.due("undo: v", x.of(1, 1), 2);
            Checks.due("undo: earns", x.of(0, 2), earned);
            Checks.due("undo: row", x.row(0, 2, 1), 3);
            Checks.due("undo: ring", x.told(1), 1);
            Checks.due("undo: seen", x.count(2), 1);
            Checks.due("undo: book", x.count(3), 2);
            Checks.due("undo: streets stay", x.count(1), 2);
            Checks.due("undo: the text stays", x.count(4), 3);
            Checks.due("undo: tapes stay", x.read(0, 1), 77);
            Checks.due("undo: the trace stays", x.count(5), 2);
            x.earn(0, 1);
            x.year();
        }
        x.undo();
        x.see(-1, 0);
        x.see(0, 14);
        x.book(-1);
        Checks.due("undo once more", x.undo(), 2);
        x.house(6, 0, 0);
        Checks.due("a house behind an undo has a new row", x.row(2, 0, 1), 0);
    }

    static void p28_undoNotes() {
        MiddleThree x = Checks.plain(5);
        x.see(0, 5);
        x.book(5);
        x.image();
        x.see(-1, 0);
        x.see(0, 6);
        x.book(-1);
        x.book(6);
        Checks.due("seen otherwise", x.lied(1), 0);
        Checks.due("booked otherwise", x.looked(), 0);
        x.undo();
        Checks.due("what was seen is as it was", x.lied(1), 1);
        Checks.due("what was booked is as it was", x.looked(), -5);
    }

    static void p28_undoMore() {
        MiddleThree x = Checks.plain(5, 6, 7);
        x.see(1, 6);
        x.image();
        x.see(-1, 0);
        x.see(2, 7);
        x.undo();
        Checks.due("house 1 is seen again, not house 2", x.lied(1), 1);
        x = Checks.town(0, 0, 1, 0, 0, 1, 0, 0, 1, 0, 0, 1, 0, 0, 1, 6, 0, 1, 6, 0, 9);
        for (int part = 0; part < 4; part++) {
            x.row(5, part, part);
            x.row(6, part, 4 - part);
        }
        x.image();
        for (int part = 0; part < 4; part++) {
            x.row(5, part, 4);
            x.row(6, part, 0);
        }
        x.undo();
        for (int part = 0; part < 4; part++) {
            Checks.due("the row of house 5", x.row(5, part, 0), part);
            Checks.due("the row of house 6", x.row(6, part, 0), 4 - part);
        }
        x = Checks.plain(5, 9);
        x.image();
        x.house(6, 9, 99);
        x.house(6, 9, 99);
        for (int part = 0; part < 4; part++) {
            x.row(2, part, 4);
            x.row(3, part, 4);
        }
        x.undo();
        Checks.due("no trace of the third: lots", x.lots(), -5);
        Checks.due("no trace of the third: stays", x.stays(), 0);
        Checks.due("no trace of the third: down", x.down(1), 9);
        x.house(6, 0, 1);
        x.house(6, 0, 1);
        for (int part = 0; part < 4; part++) {
            Checks.due("a new row", x.row(2, part, 1), 0);
            Checks.due("a new row", x.row(3, part, 1), 0);
        }
    }

    static void p28_undoStreets() {
        MiddleThree x = Checks.plain(5);
        x.image();
        Checks.street(x, "add 3 h=0");
        x.undo();
        Checks.due("no street held", x.of(0, 4), 5);
        Checks.due("street 1", Checks.street(x, "add 7 h=0"), 1);
        x.image();
        Checks.due("street 2", Checks.street(x, "add 9 h=0"), 2);
        x.undo();
        Checks.due("street 1 holds", x.of(0, 4), 12);
        Checks.due("street 3", Checks.street(x, "add 11 h=0"), 3);
        Checks.due("street 3 holds", x.of(0, 4), 16);
    }

    /** House i of this town is of kind i with v i + 1. */
    private static MiddleThree one() {
        return Checks.town(0, 1, 0, 1, 2, 0, 2, 3, 0, 3, 4, 0, 4, 5, 0, 5, 6, 0, 6, 7, 0);
    }

    private static void acts(MiddleThree x, int house, int act, int due, int... bodies) {
        Checks.due("act(" + house + ", " + act + ", 10)", x.act(house, act, 10), due);
        Checks.traced("act(" + house + ", " + act + ", 10)", x, bodies);
    }

    static void p29_act() {
        MiddleThree x = one();
        acts(x, 0, 0, 10, 10);
        acts(x, 0, 1, 9, 11, 10);
        acts(x, 0, 2, 18, 12, 11, 10);
        acts(x, 1, 0, 11, 10);
        acts(x, 1, 1, 15, 20, 11, 10);
        acts(x, 1, 2, 30, 12, 20, 11, 10);
        acts(x, 2, 0, 32, 30, 10);
        acts(x, 2, 1, 29, 11, 30, 10);
        acts(x, 2, 2, 58, 12, 11, 30, 10);
        acts(x, 3, 0, 13, 10);
        acts(x, 3, 1, 9, 11, 10);
        acts(x, 3, 2, 18, 40, 12, 11, 10, 11, 10);
        acts(x, 4, 0, -14, 50, 10);
        acts(x, 4, 1, -22, 51, 20, 11, 50, 10);
        acts(x, 4, 2, -44, 12, 51, 20, 11, 50, 10);
        acts(x, 5, 0, 35, 30, 10);
        acts(x, 5, 1, 29, 11, 30, 10);
        acts(x, 5, 2, 28, 60, 12, 11, 30, 10);
        acts(x, 6, 0, 23, 71, 10);
        acts(x, 6, 1, 24, 70, 11, 71, 10, 10);
        acts(x, 6, 2, 49, 40, 12, 70, 11, 71, 10, 10, 70, 11, 71, 10, 10);
        for (int[] wrong : new int[][] {{-1, 0}, {7, 0}, {0, -1}, {0, 3}, {0, Integer.MAX_VALUE}}) {
            x.act(6, 2, 10);
            Checks.due("act of no such house or act", x.act(wrong[0], wrong[1], 10), 0);
            Checks.traced("act of no such house or act", x);
        }
    }

    static void p29_actWraps() {
        MiddleThree x = one();
        Checks.due("meek earns", x.act(2, 0, 1000000000), -1294967294);
        Checks.due("proud earns", x.act(1, 0, Integer.MAX_VALUE), Integer.MIN_VALUE);
        Checks.due("house tells", x.act(0, 2, Integer.MAX_VALUE), -4);
        Checks.due("saint earns", x.act(4, 0, Integer.MIN_VALUE), 2147483644);
        Checks.due("saint says", x.act(4, 1, Integer.MAX_VALUE), (2147483644 - 5) ^ 6);
        Checks.due("house earns -5", x.act(0, 0, -5), -5);
    }

    static void p30_trace() {
        MiddleThree x = one();
        Checks.due("trace: no act", x.trace(0), -1);
        x.act(3, 2, 10);
        Checks.due("trace", x.trace(0), 40);
        Checks.due("trace: the last", x.trace(5), 10);
        Checks.due("trace: behind it", x.trace(6), -1);
        Checks.due("trace: -1", x.trace(-1), -1);
        Checks.due("trace: 20", x.trace(20), -1);
        Checks.due("trace: far", x.trace(Integer.MAX_VALUE), -1);
        x.act(0, 0, 10);
        Checks.due("trace: the latest", x.trace(0), 10);
        Checks.due("trace: the latest", x.trace(1), -1);
    }

    static void p31_taken() {
        MiddleThree x = one();
        int[] above = {-1, 0, 0, 0, 1, 2, 3};
        for (int kind = 0; kind <= 6; kind++) {
            for (int k = 0; k <= 6; k++) {
                boolean under = k == kind || k == 0 || k == above[kind];
                Checks.due("taken(" + kind + ", " + k + ")", x.taken(kind, k), under ? kind : -12);
            }
        }
        Checks.due("taken: k -1", x.taken(0, -1), -2);
        Checks.due("taken: k 7", x.taken(0, 7), -2);
        Checks.due("taken: house -1", x.taken(-1, 0), -11);
        Checks.due("taken: house 7", x.taken(7, 0), -11);
        Checks.due("taken: bad ahead of nothing", x.taken(7, 7), -2);
    }

    static void p32_count() {
        MiddleThree x = Checks.plain(1, 2);
        Checks.street(x, "row");
        Checks.feed(x, "tax ");
        x.see(0, 0);
        x.see(0, 1);
        x.see(1, 1);
        for (int i = 0; i < 5; i++) {
            x.book(i);
        }
        x.act(0, 2, 0);
        int[] due = {2, 1, 3, 5, 4, 3};
        for (int what = 0; what <= 5; what++) {
            Checks.due("count(" + what + ")", x.count(what), due[what]);
        }
        Checks.due("count(-1)", x.count(-1), -2);
        Checks.due("count(6)", x.count(6), -2);
    }
}
