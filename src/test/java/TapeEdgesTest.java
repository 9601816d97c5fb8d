/** The edges of promises 33 to 36: tape, item, read, shift. */
public final class TapeEdgesTest {
    public static void main(String[] args) {
        Checks.run(TapeEdgesTest.class);
        Checks.finish();
    }

    /** Tape 0: five ints 10 .. 14; tape 1: three ints; tape 2: five shorts; the others hold nothing. */
    private static MiddleThree tapes() {
        MiddleThree x = new MiddleThree();
        x.tape(0, 2, 5);
        x.tape(1, 2, 3);
        x.tape(2, 1, 5);
        for (int i = 0; i < 5; i++) {
            x.item(0, i, 10 + i);
        }
        return x;
    }

    private static void holds(String when, MiddleThree x, int tape, long... want) {
        for (int i = 0; i < want.length; i++) {
            Checks.due(when + ": item " + i + " of tape " + tape, x.read(tape, i), want[i]);
        }
        Checks.due(when + ": the end of tape " + tape, x.read(tape, want.length), Checks.NO);
    }

    // ---- 33: A TAPE becomes a row of n (0 .. 60) of a sort, all 0, or holds nothing (sort -1). NONE; BAD; SIZE.

    static void p33_tapeBelow0() {
        Checks.due("tape -1", new MiddleThree().tape(-1, 0, 1), -1);
        Checks.due("least tape", new MiddleThree().tape(Integer.MIN_VALUE, 0, 1), -1);
        Checks.due("tape -1, nothing", new MiddleThree().tape(-1, -1, 1), -1);
    }

    static void p33_tapeAbove5() {
        Checks.due("tape 6", new MiddleThree().tape(6, 0, 1), -1);
        Checks.due("greatest tape", new MiddleThree().tape(Integer.MAX_VALUE, 0, 1), -1);
    }

    static void p33_tapes0To5() {
        MiddleThree x = new MiddleThree();
        for (int tape = 0; tape <= 5; tape++) {
            Checks.due("tape " + tape, x.tape(tape, 2, tape + 1), 1);
            x.item(tape, tape, 70 + tape);
        }
        for (int tape = 0; tape <= 5; tape++) {
            Checks.due("tape " + tape, x.read(tape, tape), 70 + tape);
            Checks.due("the end of tape " + tape, x.read(tape, tape + 1), Checks.NO);
        }
    }

    static void p33_sortBelowMinus1() {
        Checks.due("sort -2", new MiddleThree().tape(0, -2, 1), -2);
        Checks.due("least sort", new MiddleThree().tape(0, Integer.MIN_VALUE, 1), -2);
    }

    static void p33_sortAbove4() {
        Checks.due("sort 5", new MiddleThree().tape(0, 5, 1), -2);
        Checks.due("greatest sort", new MiddleThree().tape(0, Integer.MAX_VALUE, 1), -2);
    }

    static void p33_sorts0To4() {
        for (int sort = 0; sort <= 4; sort++) {
            MiddleThree x = new MiddleThree();
            Checks.due("sort " + sort, x.tape(0, sort, 2), 1);
            holds("sort " + sort, x, 0, 0, 0);
        }
    }

    static void p33_sortMinus1WhateverN() {
        for (int n : new int[] {0, 1, 60, 61, 99, -1, Integer.MIN_VALUE, Integer.MAX_VALUE}) {
            MiddleThree x = tapes();
            Checks.due("n " + n, x.tape(0, -1, n), 1);
            Checks.due("nothing: item", x.item(0, 0, 1), -11);
            Checks.due("nothing: read", x.read(0, 0), Checks.NO);
        }
        Checks.due("nothing held before", new MiddleThree().tape(5, -1, 0), 1);
    }

    static void p33_nBelow0() {
        Checks.due("n -1", new MiddleThree().tape(0, 0, -1), -14);
        Checks.due("least n", new MiddleThree().tape(0, 4, Integer.MIN_VALUE), -14);
    }

    static void p33_nAbove60() {
        Checks.due("n 61", new MiddleThree().tape(0, 0, 61), -2);
        Checks.due("greatest n", new MiddleThree().tape(0, 4, Integer.MAX_VALUE), -2);
    }

    static void p33_n0And60() {
        MiddleThree x = new MiddleThree();
        Checks.due("n 0", x.tape(0, 3, 0), 1);
        Checks.due("its end", x.read(0, 0), Checks.NO);
        Checks.due("n 60", x.tape(0, 3, 60), 1);
        Checks.due("the last place", x.read(0, 59), 0);
        Checks.due("its end", x.read(0, 60), Checks.NO);
    }

    static void p33_all0() {
        MiddleThree x = new MiddleThree();
        x.tape(0, 2, 60);
        for (int i = 0; i < 60; i++) {
            x.item(0, i, 7);
        }
        x.tape(0, 3, 60);
        for (int i = 0; i < 60; i++) {
            Checks.due("item " + i, x.read(0, i), 0);
        }
        x.tape(0, 2, 2);
        x.item(0, 1, 7);
        x.tape(0, 2, 1);
        x.tape(0, 2, 2);
        Checks.due("longer again", x.read(0, 1), 0);
        x.item(0, 1, 7);
        x.tape(0, -1, 2);
        x.tape(0, 2, 2);
        Checks.due("behind nothing", x.read(0, 1), 0);
    }

    static void p33_noneAheadOfBadAndSize() {
        Checks.due("tape 6, sort 5", new MiddleThree().tape(6, 5, 1), -1);
        Checks.due("tape 6, n 61", new MiddleThree().tape(6, 0, 61), -1);
        Checks.due("tape -1, n -1", new MiddleThree().tape(-1, 0, -1), -1);
    }

    static void p33_badAheadOfSize() {
        Checks.due("sort 5, n -1", new MiddleThree().tape(0, 5, -1), -2);
        Checks.due("sort -2, n -1", new MiddleThree().tape(0, -2, -1), -2);
    }

    // ---- 34: Item i of a TAPE becomes v (its lowest bits; booleans: whether v is not 0): 1. NONE; NOTHING; PLACE.

    static void p34_tapeBelow0() {
        Checks.due("tape -1", tapes().item(-1, 0, 1), -1);
        Checks.due("least tape", tapes().item(Integer.MIN_VALUE, 0, 1), -1);
    }

    static void p34_tapeAbove5() {
        Checks.due("tape 6", tapes().item(6, 0, 1), -1);
        Checks.due("greatest tape", tapes().item(Integer.MAX_VALUE, 0, 1), -1);
    }

    static void p34_nothing() {
        Checks.due("tape 3", tapes().item(3, 0, 1), -11);
        Checks.due("tape 5", tapes().item(5, 0, 1), -11);
    }

    static void p34_placeBelow0() {
        Checks.due("place -1", tapes().item(1, -1, 1), -13);
        Checks.due("least place", tapes().item(1, Integer.MIN_VALUE, 1), -13);
    }

    static void p34_placeAtTheEndAndBeyond() {
        MiddleThree x = tapes();
        Checks.due("the last place", x.item(1, 2, 9), 1);
        Checks.due("the end", x.item(1, 3, 9), -13);
        Checks.due("greatest place", x.item(1, Integer.MAX_VALUE, 9), -13);
        holds("the last place alone", x, 1, 0, 0, 9);
        x.tape(4, 0, 0);
        Checks.due("a row of none", x.item(4, 0, 9), -13);
        x.tape(4, 0, 60);
        Checks.due("place 59", x.item(4, 59, 9), 1);
        Checks.due("place 60", x.item(4, 60, 9), -13);
    }

    static void p34_noneAheadOfPlace() {
        Checks.due("tape 6, place -1", tapes().item(6, -1, 1), -1);
    }

    static void p34_nothingAheadOfPlace() {
        Checks.due("place -1", tapes().item(3, -1, 1), -11);
        Checks.due("place 60", tapes().item(3, 60, 1), -11);
    }

    private static void becomes(int sort, long v, long due) {
        MiddleThree x = new MiddleThree();
        x.tape(0, sort, 3);
        Checks.due("item", x.item(0, 1, v), 1);
        holds(v + " in sort " + sort, x, 0, 0, due, 0);
    }

    static void p34_bytesWrap() {
        becomes(0, 127, 127);
        becomes(0, 128, -128);
        becomes(0, -128, -128);
        becomes(0, -129, 127);
        becomes(0, 255, -1);
        becomes(0, 256, 0);
        becomes(0, Long.MAX_VALUE, -1);
        becomes(0, Long.MIN_VALUE, 0);
    }

    static void p34_shortsWrap() {
        becomes(1, 32767, 32767);
        becomes(1, 32768, -32768);
        becomes(1, -32768, -32768);
        becomes(1, -32769, 32767);
        becomes(1, 65535, -1);
        becomes(1, 65536, 0);
        becomes(1, Long.MAX_VALUE, -1);
    }

    static void p34_intsWrap() {
        becomes(2, Integer.MAX_VALUE, Integer.MAX_VALUE);
        becomes(2, 2147483648L, Integer.MIN_VALUE);
        becomes(2, Integer.MIN_VALUE, Integer.MIN_VALUE);
        becomes(2, -2147483649L, Integer.MAX_VALUE);
        becomes(2, 4294967295L, -1);
        becomes(2, 4294967296L, 0);
    }

    static void p34_longsAsTheyAre() {
        becomes(3, Long.MAX_VALUE, Long.MAX_VALUE);
        becomes(3, Long.MIN_VALUE, Long.MIN_VALUE);
        becomes(3, Long.MIN_VALUE + 1, Long.MIN_VALUE + 1);
        becomes(3, -1, -1);
        becomes(3, 4294967296L, 4294967296L);
    }

    static void p34_booleansWhetherVIsNot0() {
        becomes(4, 0, 0);
        becomes(4, 1, 1);
        becomes(4, 2, 1);
        becomes(4, -1, 1);
        becomes(4, 256, 1);
        becomes(4, 4294967296L, 1);
        becomes(4, Long.MIN_VALUE, 1);
    }

    static void p34_again() {
        MiddleThree x = tapes();
        x.item(0, 2, 99);
        x.item(0, 2, 0);
        holds("0 again", x, 0, 10, 11, 0, 13, 14);
    }

    // ---- 35: Item i of a TAPE. NO: no such TAPE, nothing there, no such place.

    static void p35_tapeBelow0() {
        Checks.due("tape -1", tapes().read(-1, 0), Checks.NO);
        Checks.due("least tape", tapes().read(Integer.MIN_VALUE, 0), Checks.NO);
    }

    static void p35_tapeAbove5() {
        Checks.due("tape 6", tapes().read(6, 0), Checks.NO);
        Checks.due("greatest tape", tapes().read(Integer.MAX_VALUE, 0), Checks.NO);
    }

    static void p35_nothingThere() {
        Checks.due("at first", tapes().read(3, 0), Checks.NO);
        MiddleThree x = tapes();
        x.tape(0, -1, 5);
        Checks.due("again", x.read(0, 0), Checks.NO);
    }

    static void p35_placeBelow0() {
        Checks.due("place -1", tapes().read(0, -1), Checks.NO);
        Checks.due("least place", tapes().read(0, Integer.MIN_VALUE), Checks.NO);
    }

    static void p35_placeAtTheEndAndBeyond() {
        Checks.due("the first place", tapes().read(0, 0), 10);
        Checks.due("the last place", tapes().read(0, 4), 14);
        Checks.due("the end", tapes().read(0, 5), Checks.NO);
        Checks.due("greatest place", tapes().read(0, Integer.MAX_VALUE), Checks.NO);
        MiddleThree x = tapes();
        x.tape(0, 0, 0);
        Checks.due("a row of none", x.read(0, 0), Checks.NO);
    }

    // ---- 36: n items of a TAPE from i on come to another one (or the same) from j on. NONE; NOTHING; CAST; PLACE.

    static void p36_tapesBelow0() {
        Checks.due("tape -1", tapes().shift(-1, 0, 1, 0, 1), -1);
        Checks.due("other -1", tapes().shift(0, 0, -1, 0, 1), -1);
        Checks.due("least", tapes().shift(Integer.MIN_VALUE, 0, Integer.MIN_VALUE, 0, 1), -1);
    }

    static void p36_tapesAbove5() {
        Checks.due("tape 6", tapes().shift(6, 0, 1, 0, 1), -1);
        Checks.due("other 6", tapes().shift(0, 0, 6, 0, 1), -1);
        Checks.due("greatest", tapes().shift(Integer.MAX_VALUE, 0, Integer.MAX_VALUE, 0, 1), -1);
    }

    static void p36_nothing() {
        Checks.due("tape 3", tapes().shift(3, 0, 0, 0, 1), -11);
        Checks.due("other 3", tapes().shift(0, 0, 3, 0, 1), -11);
        Checks.due("both", tapes().shift(3, 0, 4, 0, 1), -11);
        Checks.due("the same", tapes().shift(3, 0, 3, 0, 0), -11);
    }

    static void p36_unlikeSorts() {
        for (int sort = 0; sort <= 4; sort++) {
            for (int other = 0; other <= 4; other++) {
                MiddleThree x = new MiddleThree();
                x.tape(0, sort, 2);
                x.tape(1, other, 2);
                Checks.due(sort + " to " + other, x.shift(0, 0, 1, 0, 2), sort == other ? 2 : -12);
            }
        }
    }

    static void p36_nBelow0() {
        Checks.due("n -1", tapes().shift(0, 0, 1, 0, -1), -13);
        Checks.due("n -1, from behind", tapes().shift(0, 1, 1, 1, -1), -13);
        Checks.due("least n", tapes().shift(0, 0, 1, 0, Integer.MIN_VALUE), -13);
    }

    static void p36_iBelow0() {
        Checks.due("i -1", tapes().shift(0, -1, 1, 0, 1), -13);
        Checks.due("i -1, none", tapes().shift(0, -1, 1, 0, 0), -13);
        Checks.due("least i", tapes().shift(0, Integer.MIN_VALUE, 1, 0, 1), -13);
    }

    static void p36_jBelow0() {
        Checks.due("j -1", tapes().shift(0, 0, 1, -1, 1), -13);
        Checks.due("j -1, none", tapes().shift(0, 0, 1, -1, 0), -13);
        Checks.due("least j", tapes().shift(0, 0, 1, Integer.MIN_VALUE, 1), -13);
    }

    static void p36_beyondTheOnesEnd() {
        Checks.due("up to its end", tapes().shift(0, 2, 1, 0, 3), 3);
        Checks.due("beyond it", tapes().shift(0, 3, 1, 0, 3), -13);
        Checks.due("from its end on", tapes().shift(0, 5, 1, 0, 1), -13);
        Checks.due("greatest i", tapes().shift(0, Integer.MAX_VALUE, 1, 0, 1), -13);
        Checks.due("greatest n", tapes().shift(0, 1, 0, 0, Integer.MAX_VALUE), -13);
        Checks.due("more than it has", tapes().shift(1, 0, 0, 0, 4), -13);
    }

    static void p36_beyondTheOthersEnd() {
        Checks.due("up to its end", tapes().shift(0, 0, 1, 1, 2), 2);
        Checks.due("beyond it", tapes().shift(0, 0, 1, 2, 2), -13);
        Checks.due("from its end on", tapes().shift(0, 0, 1, 3, 1), -13);
        Checks.due("greatest j", tapes().shift(0, 0, 1, Integer.MAX_VALUE, 1), -13);
        Checks.due("more than it has", tapes().shift(0, 0, 1, 0, 4), -13);
    }

    static void p36_none() {
        MiddleThree x = tapes();
        Checks.due("none", x.shift(0, 0, 1, 0, 0), 0);
        Checks.due("none at both ends", x.shift(0, 5, 1, 3, 0), 0);
        Checks.due("none beyond the one's end", x.shift(0, 6, 1, 0, 0), -13);
        Checks.due("none beyond the other's end", x.shift(0, 0, 1, 4, 0), -13);
        holds("none", x, 0, 10, 11, 12, 13, 14);
        holds("none", x, 1, 0, 0, 0);
        x.tape(4, 2, 0);
        Checks.due("none of a row of none", x.shift(4, 0, 4, 0, 0), 0);
    }

    static void p36_allOf60() {
        MiddleThree x = new MiddleThree();
        x.tape(0, 0, 60);
        x.tape(5, 0, 60);
        x.item(0, 0, 1);
        x.item(0, 59, 2);
        Checks.due("60", x.shift(0, 0, 5, 0, 60), 60);
        Checks.due("the first", x.read(5, 0), 1);
        Checks.due("the last", x.read(5, 59), 2);
        Checks.due("61", x.shift(0, 0, 5, 0, 61), -13);
    }

    static void p36_theSameOnward() {
        MiddleThree x = tapes();
        Checks.due("onward", x.shift(0, 0, 0, 1, 4), 4);
        holds("as they all were", x, 0, 10, 10, 11, 12, 13);
    }

    static void p36_theSameBack() {
        MiddleThree x = tapes();
        Checks.due("back", x.shift(0, 1, 0, 0, 4), 4);
        holds("as they all were", x, 0, 11, 12, 13, 14, 14);
    }

    static void p36_theSameToTheSame() {
        MiddleThree x = tapes();
        Checks.due("all", x.shift(0, 0, 0, 0, 5), 5);
        holds("as they all were", x, 0, 10, 11, 12, 13, 14);
    }

    static void p36_theOneStays() {
        MiddleThree x = tapes();
        Checks.due("to another", x.shift(0, 3, 1, 1, 2), 2);
        holds("the one", x, 0, 10, 11, 12, 13, 14);
        holds("the other", x, 1, 0, 13, 14);
    }

    static void p36_noneAheadOfNothing() {
        Checks.due("tape 3, other 6", tapes().shift(3, 0, 6, 0, 1), -1);
        Checks.due("tape 6, other 3", tapes().shift(6, 0, 3, 0, 1), -1);
    }

    static void p36_nothingAheadOfCastAndPlace() {
        Checks.due("place -1", tapes().shift(0, -1, 3, 0, 1), -11);
        Checks.due("n -1", tapes().shift(3, 0, 2, 0, -1), -11);
    }

    static void p36_castAheadOfPlace() {
        Checks.due("i -1", tapes().shift(0, -1, 2, 0, 1), -12);
        Checks.due("j beyond", tapes().shift(0, 0, 2, 9, 1), -12);
        Checks.due("n -1", tapes().shift(0, 0, 2, 0, -1), -12);
    }
}
