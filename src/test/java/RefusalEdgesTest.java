/** Of every promise: what is answered by a refusal changes nothing; what is asked changes nothing. */
public final class RefusalEdgesTest {
    public static void main(String[] args) {
        Checks.run(RefusalEdgesTest.class);
        Checks.finish();
    }

    static void p01_the512thCall() {
        MiddleThree x = Checks.plain(5, 6);
        for (int call = 3; call <= 510; call++) {
            x.feed('a');
        }
        Checks.due("the 511th", x.year(), 1);
        Checks.due("the 512th", x.of(1, 2), 6);
    }

    static void p02_refused() {
        Checks.refused("house(-1, 0, 0)", x -> x.house(-1, 0, 0), -1);
        Checks.refused("house(7, 0, 0)", x -> x.house(7, 0, 0), -1);
        Checks.refused("house(0, -1, 0)", x -> x.house(0, -1, 0), -2);
        Checks.refused("house(0, 10, 0)", x -> x.house(0, 10, 0), -2);
        Checks.refused("house(0, 0, -1)", x -> x.house(0, 0, -1), -2);
        Checks.refused("house(0, 0, 100)", x -> x.house(0, 0, 100), -2);
        Checks.refusedFull("house(0, 0, 0)", x -> x.house(0, 0, 0), -4);
    }

    static void p03_refusedAndAsked() {
        Checks.refused("of(-1, 0)", x -> x.of(-1, 0), -1);
        Checks.refused("of(4, 0)", x -> x.of(4, 0), -1);
        Checks.refused("of(0, -1)", x -> x.of(0, -1), -1);
        Checks.refused("of(0, 5)", x -> x.of(0, 5), -1);
        for (int what = 0; what <= 4; what++) {
            int asked = what;
            Checks.asked("of(2, " + what + ")", x -> x.of(2, asked));
        }
    }

    static void p04_refused() {
        Checks.refused("earn(-1, 5)", x -> x.earn(-1, 5), -1);
        Checks.refused("earn(4, 5)", x -> x.earn(4, 5), -1);
        Checks.refused("earn(0, -1)", x -> x.earn(0, -1), -2);
        Checks.refused("earn(0, 100)", x -> x.earn(0, 100), -2);
    }

    static void p05_refused() {
        Checks.refused("row(-1, 0, 4)", x -> x.row(-1, 0, 4), -1);
        Checks.refused("row(4, 0, 4)", x -> x.row(4, 0, 4), -1);
        Checks.refused("row(1, -1, 4)", x -> x.row(1, -1, 4), -1);
        Checks.refused("row(1, 4, 4)", x -> x.row(1, 4, 4), -1);
        Checks.refused("row(1, 0, -1)", x -> x.row(1, 0, -1), -2);
        Checks.refused("row(1, 0, 5)", x -> x.row(1, 0, 5), -2);
        Checks.refused("row(0, 0, 4)", x -> x.row(0, 0, 4), -3);
    }

    static void p06_refused() {
        Checks.refused("feed(-1)", x -> x.feed(-1), -2);
        Checks.refused("feed(128)", x -> x.feed(128), -2);
        Checks.refusedFull("feed(97)", x -> x.feed(97), -4);
    }

    static void p07_refused() {
        Checks.refusedFull("street()", x -> x.street(), -4);
    }

    static void p07_aFaultChangesNothingButTheText() {
        MiddleThree x = Checks.rich();
        MiddleThree other = Checks.rich();
        x.feed('x');
        Checks.due("rox", x.street(), -12);
        Checks.due("the text is empty", x.count(4), 0);
        Checks.feed(x, "ro");
        Checks.same("all else", Checks.state(x), Checks.state(other));
    }

    static void p08_refusedAndAsked() {
        Checks.refused("told(-1)", x -> x.told(-1), -1);
        Checks.refused("told(3)", x -> x.told(3), -1);
        for (int what = 0; what <= 2; what++) {
            int asked = what;
            Checks.asked("told(" + what + ")", x -> x.told(asked));
        }
    }

    static void p10_refusedAndAsked() {
        Checks.refused("at(5, -1)", x -> x.at(5, -1), -1);
        Checks.refused("at(5, 4)", x -> x.at(5, 4), -1);
        Checks.refused("at(5, 11)", x -> x.at(5, 11), -1);
        Checks.refused("at(-1, 0)", x -> x.at(-1, 0), -2);
        Checks.refused("at(61, 10)", x -> x.at(61, 10), -2);
        Checks.asked("at(60, 1)", x -> x.at(60, 1));
        Checks.asked("at(60, 10)", x -> x.at(60, 10));
        Checks.asked("at(0, 3)", x -> x.at(0, 3));
    }

    static void p11_asked() {
        Checks.asked("stays()", x -> x.stays());
    }

    static void p12_asked() {
        Checks.asked("swings()", x -> x.swings());
    }

    static void p13_refusedAndAsked() {
        Checks.refused("gift(-1, 5, 0)", x -> x.gift(-1, 5, 0), -1001);
        Checks.refused("gift(4, 5, 0)", x -> x.gift(4, 5, 0), -1001);
        Checks.refused("gift(0, 5, 2)", x -> x.gift(0, 5, 2), -1001);
        Checks.refused("gift(0, -1, 0)", x -> x.gift(0, -1, 0), -1002);
        Checks.refused("gift(0, 100, 1)", x -> x.gift(0, 100, 1), -1002);
        Checks.asked("gift(1, 30, 0)", x -> x.gift(1, 30, 0));
        Checks.asked("gift(1, 30, 1)", x -> x.gift(1, 30, 1));
    }

    static void p14_refusedAndAsked() {
        Checks.refused("best(-1)", x -> x.best(-1), -2);
        Checks.refused("best(100)", x -> x.best(100), -2);
        Checks.asked("best(40)", x -> x.best(40));
    }

    static void p15_asked() {
        Checks.asked("lots()", x -> x.lots());
    }

    static void p16_refusedAndAsked() {
        Checks.refused("build(7, 0, 5, 0)", x -> x.build(7, 0, 5, 0), -1);
        Checks.refused("build(0, 0, 5, 2)", x -> x.build(0, 0, 5, 2), -1);
        Checks.refused("build(0, 10, 5, 0)", x -> x.build(0, 10, 5, 0), -2);
        Checks.refused("build(0, 0, 100, 0)", x -> x.build(0, 0, 100, 0), -2);
        Checks.refusedFull("build(0, 0, 5, 0)", x -> x.build(0, 0, 5, 0), -9);
        Checks.asked("build(6, 3, 50, 0)", x -> x.build(6, 3, 50, 0));
        Checks.asked("build(6, 3, 50, 1)", x -> x.build(6, 3, 50, 1));
    }

    static void p17_refusedAndAsked() {
        Checks.refused("down(-1)", x -> x.down(-1), -1);
        Checks.refused("down(2)", x -> x.down(2), -1);
        Checks.asked("down(0)", x -> x.down(0));
        Checks.asked("down(1)", x -> x.down(1));
    }

    static void p18_refusedAndAsked() {
        Checks.refused("before(-2)", x -> x.before(-2), -1);
        Checks.refused("before(4)", x -> x.before(4), -1);
        Checks.refusedFull("before(-1)", x -> x.before(-1), -9);
        Checks.asked("before(-1)", x -> x.before(-1));
        Checks.asked("before(3)", x -> x.before(3));
    }

    static void p19_refused() {
        Checks.refused("see(-2, 5)", x -> x.see(-2, 5), -1);
        Checks.refused("see(4, 5)", x -> x.see(4, 5), -1);
        Checks.refused("see(0, -1)", x -> x.see(0, -1), -2);
        Checks.refused("see(0, 100)", x -> x.see(0, 100), -2);
        Checks.refusedFull("see(0, 6)", x -> x.see(0, 6), -4);
    }

    static void p20_refusedAndAsked() {
        Checks.refused("lied(-1)", x -> x.lied(-1), -1);
        Checks.refused("lied(2)", x -> x.lied(2), -1);
        Checks.asked("lied(0)", x -> x.lied(0));
        Checks.asked("lied(1)", x -> x.lied(1));
    }

    static void p21_refusedAndAsked() {
        Checks.refused("wed(-1, 0)", x -> x.wed(-1, 0), -1);
        Checks.refused("wed(0, 4)", x -> x.wed(0, 4), -1);
        Checks.refused("wed(2, 2)", x -> x.wed(2, 2), -2);
        Checks.asked("wed(0, 2)", x -> x.wed(0, 2));
    }

    static void p22_refusedAndAsked() {
        Checks.refused("odds(4, 5, 0)", x -> x.odds(4, 5, 0), Checks.NO);
        Checks.refused("odds(0, 100, 0)", x -> x.odds(0, 100, 0), Checks.NO);
        Checks.refused("odds(0, 5, 2)", x -> x.odds(0, 5, 2), Checks.NO);
        Checks.asked("odds(1, 30, 0)", x -> x.odds(1, 30, 0));
        Checks.asked("odds(1, 30, 1)", x -> x.odds(1, 30, 1));
    }

    static void p23_refusedAndAsked() {
        Checks.refused("mean(0, 0)", x -> x.mean(0, 0), Checks.NO);
        Checks.refused("mean(61, 0)", x -> x.mean(61, 0), Checks.NO);
        Checks.refused("mean(5, 2)", x -> x.mean(5, 2), Checks.NO);
        Checks.asked("mean(60, 0)", x -> x.mean(60, 0));
        Checks.asked("mean(60, 1)", x -> x.mean(60, 1));
    }

    static void p24_refused() {
        Checks.refused("book(-3)", x -> x.book(-3), -2);
        Checks.refused("book(100)", x -> x.book(100), -2);
        Checks.refusedFull("book(5)", x -> x.book(5), -4);
    }

    static void p25_asked() {
        Checks.asked("looked()", x -> x.looked());
    }

    static void p26_refusedAndAsked() {
        Checks.refused("judge(-1, 0)", x -> x.judge(-1, 0), -1);
        Checks.refused("judge(6, 0)", x -> x.judge(6, 0), -1);
        Checks.refused("judge(1, 0)", x -> x.judge(1, 0), -12);
        Checks.refused("judge(0, 0)", x -> x.judge(0, 0), 102);
        Checks.asked("judge(2, 0)", x -> x.judge(2, 0));
        Checks.asked("judge(3, 0)", x -> x.judge(3, 0));
    }

    static void p28_refused() {
        MiddleThree x = Checks.full();
        String before = Checks.state(x);
        Checks.due("undo()", x.undo(), -3);
        Checks.same("undo() changes nothing", Checks.state(x), before);
    }

    static void p29_anActChangesTheTraceAlone() {
        MiddleThree x = Checks.rich();
        MiddleThree other = Checks.rich();
        for (int act = 0; act <= 2; act++) {
            x.act(3, act, -9);
        }
        x.act(1, 2, 7);
        Checks.same("act() changes nothing but the trace", Checks.state(x), Checks.state(other));
    }

    static void p29_noActChangesTheTraceAlone() {
        MiddleThree x = Checks.rich();
        MiddleThree other = Checks.rich();
        Checks.due("act(4, 0, 7)", x.act(4, 0, 7), 0);
        Checks.due("count(5)", x.count(5), 0);
        x.act(1, 2, 7);
        Checks.same("act(4, 0, 7) changes nothing but the trace", Checks.state(x), Checks.state(other));
    }

    static void p30_refusedAndAsked() {
        Checks.refused("trace(-1)", x -> x.trace(-1), -1);
        Checks.refused("trace(12)", x -> x.trace(12), -1);
        Checks.asked("trace(11)", x -> x.trace(11));
    }

    static void p31_refusedAndAsked() {
        Checks.refused("taken(0, -1)", x -> x.taken(0, -1), -2);
        Checks.refused("taken(4, 0)", x -> x.taken(4, 0), -11);
        Checks.refused("taken(0, 6)", x -> x.taken(0, 6), -12);
        Checks.asked("taken(3, 1)", x -> x.taken(3, 1));
    }

    static void p32_refusedAndAsked() {
        Checks.refused("count(-1)", x -> x.count(-1), -2);
        Checks.refused("count(6)", x -> x.count(6), -2);
        for (int what = 0; what <= 5; what++) {
            int asked = what;
            Checks.asked("count(" + what + ")", x -> x.count(asked));
        }
    }

    static void p33_refused() {
        Checks.refused("tape(-1, 0, 3)", x -> x.tape(-1, 0, 3), -1);
        Checks.refused("tape(6, 0, 3)", x -> x.tape(6, 0, 3), -1);
        Checks.refused("tape(0, 5, 3)", x -> x.tape(0, 5, 3), -2);
        Checks.refused("tape(0, -2, 3)", x -> x.tape(0, -2, 3), -2);
        Checks.refused("tape(0, 1, 61)", x -> x.tape(0, 1, 61), -2);
        Checks.refused("tape(0, 1, -1)", x -> x.tape(0, 1, -1), -14);
    }

    static void p34_refused() {
        Checks.refused("item(-1, 0, 3)", x -> x.item(-1, 0, 3), -1);
        Checks.refused("item(6, 0, 3)", x -> x.item(6, 0, 3), -1);
        Checks.refused("item(3, 0, 3)", x -> x.item(3, 0, 3), -11);
        Checks.refused("item(0, -1, 3)", x -> x.item(0, -1, 3), -13);
        Checks.refused("item(0, 2, 3)", x -> x.item(0, 2, 3), -13);
    }

    static void p35_refusedAndAsked() {
        Checks.refused("read(-1, 0)", x -> x.read(-1, 0), Checks.NO);
        Checks.refused("read(3, 0)", x -> x.read(3, 0), Checks.NO);
        Checks.refused("read(0, 2)", x -> x.read(0, 2), Checks.NO);
        Checks.asked("read(1, 1)", x -> x.read(1, 1));
    }

    static void p36_refused() {
        Checks.refused("shift(6, 0, 0, 0, 1)", x -> x.shift(6, 0, 0, 0, 1), -1);
        Checks.refused("shift(2, 0, 6, 0, 1)", x -> x.shift(2, 0, 6, 0, 1), -1);
        Checks.refused("shift(3, 0, 0, 0, 1)", x -> x.shift(3, 0, 0, 0, 1), -11);
        Checks.refused("shift(1, 0, 0, 0, 1)", x -> x.shift(1, 0, 0, 0, 1), -12);
        Checks.refused("shift(2, 1, 0, 0, 3)", x -> x.shift(2, 1, 0, 0, 3), -13);
        Checks.refused("shift(2, 0, 0, 0, 3)", x -> x.shift(2, 0, 0, 0, 3), -13);
        Checks.refused("shift(2, 2, 0, 0, -1)", x -> x.shift(2, 2, 0, 0, -1), -13);
    }
}
