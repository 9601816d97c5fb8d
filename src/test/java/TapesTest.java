/** Promises 33 to 36: tape, item, read, shift. */
public final class TapesTest {
    public static void main(String[] args) {
        Checks.run(TapesTest.class);
        Checks.finish();
    }

    static void p33_tape() {
        MiddleThree x = new MiddleThree();
        for (int sort = 0; sort <= 4; sort++) {
            Checks.due("tape", x.tape(sort, sort, 60), 1);
            Checks.due("tape: all 0", x.read(sort, 59), 0);
            Checks.due("tape: its end", x.read(sort, 60), Checks.NO);
        }
        Checks.due("tape of none", x.tape(5, 2, 0), 1);
        Checks.due("tape of none", x.read(5, 0), Checks.NO);
        Checks.due("tape -1", x.tape(-1, 0, 1), -1);
        Checks.due("tape 6", x.tape(6, 0, 1), -1);
        Checks.due("tape: sort -2", x.tape(0, -2, 1), -2);
        Checks.due("tape: sort 5", x.tape(0, 5, 1), -2);
        Checks.due("tape: n 61", x.tape(0, 0, 61), -2);
        Checks.due("tape: n -1", x.tape(0, 0, -1), -14);
        Checks.due("tape: far below 0", x.tape(0, 0, Integer.MIN_VALUE), -14);
        Checks.due("tape: none ahead of bad", x.tape(6, 5, 61), -1);
        Checks.due("tape: bad ahead of size", x.tape(0, 5, -1), -2);
        Checks.due("tape: as it was", x.read(0, 59), 0);
        x.item(0, 0, 5);
        Checks.due("tape again", x.tape(0, 0, 3), 1);
        Checks.due("tape again: all 0", x.read(0, 0), 0);
        Checks.due("tape again: its end", x.read(0, 3), Checks.NO);
        for (int n : new int[] {99, -1, 0}) {
            x.tape(0, 0, 3);
            Checks.due("tape: nothing", x.tape(0, -1, n), 1);
            Checks.due("tape: nothing", x.item(0, 0, 1), -11);
            Checks.due("tape: nothing", x.read(0, 0), Checks.NO);
        }
    }

    static void p34_item() {
        MiddleThree x = new MiddleThree();
        Checks.due("item: tape -1", x.item(-1, 0, 0), -1);
        Checks.due("item: tape 6", x.item(6, 0, 0), -1);
        Checks.due("item: nothing", x.item(0, 0, 0), -11);
        Checks.due("item: nothing ahead of place", x.item(0, -1, 0), -11);
        x.tape(0, 3, 2);
        Checks.due("item: place -1", x.item(0, -1, 0), -13);
        Checks.due("item: place 2", x.item(0, 2, 0), -13);
        Checks.due("item: far", x.item(0, Integer.MAX_VALUE, 0), -13);
        Checks.due("item", x.item(0, 1, 9), 1);
        Checks.due("item: that one", x.read(0, 1), 9);
        Checks.due("item: that one alone", x.read(0, 0), 0);
        x.tape(0, 3, 0);
        Checks.due("item of none", x.item(0, 0, 0), -13);
    }

    private static void fits(int sort, long v, long due) {
        MiddleThree x = new MiddleThree();
        x.tape(2, sort, 1);
        Checks.due("item", x.item(2, 0, v), 1);
        Checks.due(v + " in sort " + sort, x.read(2, 0), due);
    }

    static void p34_items() {
        fits(0, 127, 127);
        fits(0, 128, -128);
        fits(0, 200, -56);
        fits(0, 256, 0);
        fits(0, -129, 127);
        fits(1, 32767, 32767);
        fits(1, 32768, -32768);
        fits(1, 70000, 4464);
        fits(1, -1, -1);
        fits(2, 2147483647, 2147483647);
        fits(2, 2147483648L, -2147483648L);
        fits(2, 4294967296L, 0);
        fits(3, Long.MAX_VALUE, Long.MAX_VALUE);
        fits(3, Long.MIN_VALUE, Long.MIN_VALUE);
        fits(4, 0, 0);
        fits(4, 1, 1);
        fits(4, 2, 1);
        fits(4, -1, 1);
        fits(4, 4294967296L, 1);
    }

    static void p35_read() {
        MiddleThree x = new MiddleThree();
        Checks.due("read: nothing", x.read(0, 0), Checks.NO);
        x.tape(0, 2, 2);
        x.item(0, 1, -7);
        Checks.due("read", x.read(0, 1), -7);
        Checks.due("read: place -1", x.read(0, -1), Checks.NO);
        Checks.due("read: place 2", x.read(0, 2), Checks.NO);
        Checks.due("read: tape -1", x.read(-1, 0), Checks.NO);
        Checks.due("read: tape 6", x.read(6, 0), Checks.NO);
    }

    private static MiddleThree tapes() {
        MiddleThree x = new MiddleThree();
        x.tape(0, 2, 5);
        x.tape(1, 2, 3);
        x.tape(2, 1, 5);
        for (int i = 0; i < 5; i++) {
            x.item(0, i, 10 + i);
        }
        return x;
    }

    private static void holds(String when, MiddleThree x, int tape, int... want) {
        for (int i = 0; i < want.length; i++) {
            Checks.due(when + ": item " + i, x.read(tape, i), want[i]);
        }
        Checks.due(when + ": its end", x.read(tape, want.length), Checks.NO);
    }

    static void p36_shift() {
        MiddleThree x = tapes();
        Checks.due("shift", x.shift(0, 3, 1, 1, 2), 2);
        holds("shift", x, 1, 0, 13, 14);
        holds("shift", x, 0, 10, 11, 12, 13, 14);
        x = tapes();
        Checks.due("shift onward", x.shift(0, 0, 0, 1, 4), 4);
        holds("shift onward: as they all were", x, 0, 10, 10, 11, 12, 13);
        x = tapes();
        Checks.due("shift back", x.shift(0, 1, 0, 0, 4), 4);
        holds("shift back: as they all were", x, 0, 11, 12, 13, 14, 14);
        x = tapes();
        Checks.due("shift all", x.shift(0, 0, 0, 0, 5), 5);
        holds("shift all", x, 0, 10, 11, 12, 13, 14);
        Checks.due("shift none, at both ends", x.shift(0, 5, 1, 3, 0), 0);
    }

    static void p36_shiftRefusals() {
        MiddleThree x = tapes();
        Checks.due("shift: tape -1", x.shift(-1, 0, 0, 0, 0), -1);
        Checks.due("shift: tape 6", x.shift(6, 0, 0, 0, 0), -1);
        Checks.due("shift: other -1", x.shift(0, 0, -1, 0, 0), -1);
        Checks.due("shift: other 6", x.shift(0, 0, 6, 0, 0), -1);
        Checks.due("shift: none ahead of nothing", x.shift(3, 0, 6, 0, 0), -1);
        Checks.due("shift: nothing", x.shift(3, 0, 0, 0, 0), -11);
        Checks.due("shift: nothing", x.shift(0, 0, 3, 0, 0), -11);
        Checks.due("shift: nothing ahead of place", x.shift(0, -1, 3, 0, 0), -11);
        Checks.due("shift: unlike", x.shift(0, 0, 2, 0, 1), -12);
        Checks.due("shift: unlike ahead of place", x.shift(0, -1, 2, 0, 1), -12);
        Checks.due("shift: n -1", x.shift(0, 0, 1, 0, -1), -13);
        Checks.due("shift: i -1", x.shift(0, -1, 1, 0, 1), -13);
        Checks.due("shift: j -1", x.shift(0, 0, 1, -1, 1), -13);
        Checks.due("shift: beyond the one's end", x.shift(0, 3, 1, 0, 3), -13);
        Checks.due("shift: beyond the other's end", x.shift(0, 0, 1, 1, 3), -13);
        Checks.due("shift: none, beyond the one's end", x.shift(0, 6, 1, 0, 0), -13);
        Checks.due("shift: none, beyond the other's end", x.shift(0, 0, 1, 4, 0), -13);
        Checks.due("shift: far", x.shift(0, Integer.MAX_VALUE, 1, 0, 1), -13);
        Checks.due("shift: far", x.shift(0, 0, 1, Integer.MAX_VALUE, 1), -13);
        Checks.due("shift: many", x.shift(0, 1, 1, 1, Integer.MAX_VALUE), -13);
        Checks.due("shift: below", x.shift(0, Integer.MIN_VALUE, 1, 0, Integer.MIN_VALUE), -13);
        holds("a refusal shifts nothing", x, 1, 0, 0, 0);
    }
}
