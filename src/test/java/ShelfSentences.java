/** Sentences of Terms 4 (shelves, the host's refusals), and of promises 30 to 36: each method stands for one of them. */
final class ShelfSentences {
    private static final int MIN = Integer.MIN_VALUE, MAX = Integer.MAX_VALUE;
    private static final long NONE = Long.MIN_VALUE;

    private ShelfSentences() {
    }

    static void all() {
        shelves();
        sorts();
        lengths();
        zeroAtFirst();
        lowestBits();
        nothingThere();
        otherKind();
        noPlace();
        sizeBelowZero();
        keep();
        row();
        put();
        element();
        shift();
        shiftAsTheyWere();
        shiftAnswers();
        taken();
        takenAnswers();
        count();
    }

    static void shelves() {
        Due.stands("SHELVES 0 .. 5 each hold nothing (at first), a LOAD (a BODY), or a ROW:", 30, 31, 32, 33, 34, 35);
        Asked x = new Asked();
        x.body(3);
        int[] bad = {-1, 6, MIN, MAX};
        for (int s : bad) {
            x.keep(s, 0).is(-1);
            x.keep(s, -1).is(-1);
            x.row(s, 0, 1).is(-1);
            x.put(s, 0, 1).is(-1);
            x.element(s, 0).is(NONE);
            x.shift(s, 0, 0, 0, 0).is(-1);
            x.shift(0, 0, s, 0, 0).is(-1);
            x.taken(s, 0).is(-1);
            x.lumps(s, 0, 1).is(-1);
        }
        for (int s = 0; s < 6; s++) {
            x.put(s, 0, 1).is(-11);
            x.taken(s, 0).is(-11);
            x.keep(s, 0).is(1);
            x.put(s, 0, 1).is(-12);
            x.taken(s, 0).is(3);
            x.row(s, 3, 2).is(1);
            x.put(s, 1, 100 + s).is(1);
            x.taken(s, 0).is(-12);
        }
        for (int s = 0; s < 6; s++) x.element(s, 1).is(100 + s);
        for (int s = 0; s < 6; s++) {
            x.keep(s, -1).is(1);
            x.put(s, 1, 1).is(-11);
        }
    }

    static void sorts() {
        Due.stands("of 0 bytes, 1 shorts, 2 ints, 3 longs, 4 booleans,", 31, 32, 33);
        Asked x = new Asked();
        x.row(0, -1, 1).is(-1);
        x.row(0, 5, 1).is(-1);
        long[] greatest = {127, 32767, MAX, Long.MAX_VALUE, 1};
        long[] least = {-128, -32768, MIN, Long.MIN_VALUE, 1};
        for (int sort = 0; sort < 5; sort++) {
            x.row(0, sort, 2).is(1);
            x.put(0, 0, greatest[sort]).is(1);
            x.put(0, 1, least[sort]).is(1);
            x.element(0, 0).is(greatest[sort]);
            x.element(0, 1).is(least[sort]);
        }
    }

    static void lengths() {
        Due.stands("of 0 .. 60 elements,", 31, 32, 33);
        Asked x = new Asked();
        for (int sort = 0; sort < 5; sort++) {
            x.row(1, sort, 61).is(-1);
            x.row(1, sort, 60).is(1);
            x.put(1, 59, 1).is(1);
            x.element(1, 59).is(1);
            x.put(1, 60, 1).is(-13);
            x.element(1, 60).is(NONE);
            x.row(1, sort, 1).is(1);
            x.put(1, 0, 1).is(1);
            x.put(1, 1, 1).is(-13);
            x.row(1, sort, 0).is(1);
            x.put(1, 0, 1).is(-13);
            x.element(1, 0).is(NONE);
            x.row(1, sort, -1).is(-14);
        }
    }

    static void zeroAtFirst() {
        Due.stands("0 at first (false);", 31, 33);
        Asked x = new Asked();
        for (int sort = 0; sort < 5; sort++) {
            x.row(2, sort, 60);
            for (int i = 0; i < 60; i += 29) x.element(2, i).is(0);
            for (int i = 0; i < 60; i += 29) x.put(2, i, 1);
            x.row(2, sort, 60);
            for (int i = 0; i < 60; i += 29) x.element(2, i).is(0);
            for (int i = 0; i < 60; i += 29) x.put(2, i, 1);
            // nor does what stood behind a shorter one's end come again
            x.row(2, sort, 3);
            x.row(2, sort, 60);
            for (int i = 0; i < 60; i += 29) x.element(2, i).is(0);
        }
    }

    static void lowestBits() {
        Due.stands("what is put in keeps its lowest bits (a boolean: whether it is not 0; 1 or 0).", 32, 33);
        Asked x = new Asked();
        long[] put = {128, -129, 255, 256, 32768, -32769, 65536, 1L << 31, -(1L << 31) - 1, 1L << 32, Long.MIN_VALUE, -1, 0};
        long[][] kept = {
            {-128, 127, -1, 0, 0, -1, 0, 0, -1, 0, 0, -1, 0},
            {128, -129, 255, 256, -32768, 32767, 0, 0, -1, 0, 0, -1, 0},
            {128, -129, 255, 256, 32768, -32769, 65536, MIN, MAX, 0, 0, -1, 0},
            put,
            {1, 1, 1, 1, 1, 1, 1, 1, 1, 1, 1, 1, 0}};
        for (int sort = 0; sort < 5; sort++) {
            x.row(0, sort, 1);
            for (int k = 0; k < put.length; k++) {
                x.put(0, 0, put[k]).is(1);
                x.element(0, 0).is(kept[sort][k]);
            }
        }
    }

    static void nothingThere() {
        Due.stands("The host's REFUSALS: -11 nothing is there where something is wanted;", 32, 33, 34, 35);
        Asked x = new Asked();
        x.row(1, 0, 1);
        for (int k = 0; k < 2; k++) {
            x.put(0, 0, 1).is(-11);
            x.element(0, 0).is(NONE);
            x.shift(0, 0, 1, 0, 1).is(-11);
            x.shift(1, 0, 0, 0, 1).is(-11);
            x.taken(0, 0).is(-11);
            x.row(0, 0, 1);
            x.put(0, 0, 1).is(1);
            x.shift(0, 0, 1, 0, 1).is(1);
            x.keep(0, -1);
        }
    }

    static void otherKind() {
        Due.stands("-12 it is of another kind;", 3, 32, 34, 35);
        Asked x = new Asked();
        x.body(1);
        x.keep(0, 0);
        x.row(1, 0, 4);
        x.row(2, 1, 4);
        x.put(0, 0, 1).is(-12);
        x.shift(0, 0, 1, 0, 1).is(-12);
        x.shift(1, 0, 2, 0, 1).is(-12);
        x.taken(0, 2).is(-12);
        x.taken(0, 1).is(1);
        x.taken(1, 0).is(-12);
        x.lumps(0, 0, 1).is(-12);
        x.lumps(2, 0, 1).is(-12);
        x.lumps(1, 0, 1).is(0);
    }

    static void noPlace() {
        Due.stands("-13 a place that is not there;", 32, 33, 34);
        Asked x = new Asked().rowOf(0, 2, 10, 11, 12);
        int[] bad = {-1, 3, 60, MIN, MAX};
        for (int i : bad) {
            x.put(0, i, 1).is(-13);
            x.element(0, i).is(NONE);
            x.shift(0, i, 0, 0, 1).is(-13);
            x.shift(0, 0, 0, i, 1).is(-13);
        }
        x.put(0, 0, 20).is(1);
        x.put(0, 2, 22).is(1);
        x.element(0, 0).is(20);
        x.element(0, 1).is(11);
        x.element(0, 2).is(22);
    }

    static void sizeBelowZero() {
        Due.stands("-14 a size below 0.", 31);
        Asked x = new Asked();
        x.row(0, 0, -1).is(-14);
        x.row(0, 4, MIN).is(-14);
        x.put(0, 0, 1).is(-11);
        x.row(0, 0, 0).is(1);
        x.put(0, 0, 1).is(-13);
    }

    static void keep() {
        Due.stands("A SHELF holds nothing (body -1), or a LOAD: 1. BAD.", 30);
        Asked x = new Asked();
        x.keep(0, 0).is(-1);
        x.keep(0, -1).is(1);
        x.body(2);
        x.body(7);
        int[] bad = {-2, 2, 49, 50, MIN, MAX};
        for (int b : bad) x.keep(0, b).is(-1);
        x.taken(0, 0).is(-11);
        x.keep(0, 0).is(1);
        x.taken(0, 0).is(2);
        x.keep(0, 1).is(1);
        x.taken(0, 0).is(7);
        for (int b : bad) x.keep(0, b).is(-1);
        x.taken(0, 0).is(7);
        x.keep(0, -1).is(1);
        x.taken(0, 0).is(-11);
        // a ROW goes for a LOAD, and for nothing
        x.row(0, 0, 5);
        x.keep(0, 0).is(1);
        x.taken(0, 0).is(2);
        x.row(0, 0, 5);
        x.keep(0, -1).is(1);
        x.element(0, 0).is(NONE);
    }

    static void row() {
        Due.stands("A SHELF holds a ROW: 1. BAD (sort, n above 60); -14.", 31);
        Asked x = new Asked();
        int[] badSort = {-1, 5, MIN, MAX};
        for (int sort : badSort) {
            x.row(0, sort, 1).is(-1);
            x.row(0, sort, -1).is(-1);
        }
        int[] above = {61, 100, MAX};
        for (int n : above) x.row(0, 0, n).is(-1);
        x.put(0, 0, 1).is(-11);
        x.row(0, 0, 60).is(1);
        x.put(0, 59, 7).is(1);
        x.row(0, 0, 61).is(-1);
        x.row(0, 5, 1).is(-1);
        x.row(0, 0, -1).is(-14);
        x.row(6, 0, -1).is(-1);
        x.element(0, 59).is(7);
    }

    static void put() {
        Due.stands("Element i of a ROW becomes v: 1. BAD, -11, -12, -13.", 32);
        Asked x = new Asked();
        x.body(0);
        x.keep(1, 0);
        x.row(2, 3, 2);
        x.put(-1, 0, 5).is(-1);
        x.put(6, 0, 5).is(-1);
        x.put(0, 0, 5).is(-11);
        x.put(0, -1, 5).is(-11);
        x.put(1, 0, 5).is(-12);
        x.put(1, -1, 5).is(-12);
        x.put(2, -1, 5).is(-13);
        x.put(2, 2, 5).is(-13);
        x.put(2, 1, 5).is(1);
        x.element(2, 0).is(0);
        x.element(2, 1).is(5);
    }

    static void element() {
        Due.stands("Element i of a ROW; Long.MIN_VALUE: BAD, -11 to -13.", 33);
        Asked x = new Asked();
        x.body(0);
        x.keep(1, 0);
        x.rowOf(2, 3, 8, 9);
        int[][] refused = {{-1, 0}, {6, 0}, {MIN, 0}, {MAX, 0}, {0, 0}, {1, 0}, {2, -1}, {2, 2}, {2, MIN}, {2, MAX}};
        for (int[] r : refused) x.element(r[0], r[1]).is(NONE);
        x.element(2, 0).is(8);
        x.element(2, 1).is(9);
    }

    static Asked tens() {
        return new Asked().rowOf(0, 2, 10, 11, 12, 13).rowOf(1, 2, 20, 21, 22);
    }

    static void elements(Asked x, int shelf, long... due) {
        for (int i = 0; i < due.length; i++) x.element(shelf, i).is(due[i]);
    }

    static void shift() {
        Due.stands("n elements of a ROW from i on come to another one (or the same) from j on,", 34);
        Asked x = tens();
        x.shift(0, 1, 1, 1, 2).is(2);
        elements(x, 1, 20, 11, 12);
        elements(x, 0, 10, 11, 12, 13);
        x.shift(1, 0, 0, 3, 1).is(1);
        elements(x, 0, 10, 11, 12, 20);
        x.shift(0, 0, 0, 0, 4).is(4);
        x.shift(0, 1, 1, 0, 3).is(3);
        elements(x, 1, 11, 12, 20);
        // none, as far as the ends
        x.shift(0, 4, 1, 3, 0).is(0);
        x.shift(0, 0, 1, 0, 0).is(0);
        elements(x, 0, 10, 11, 12, 20);
        for (int sort = 0; sort < 5; sort++) x.rowOf(2, sort, 1, 0).rowOf(3, sort, 0, 0).shift(2, 0, 3, 1, 1).is(1).element(3, 1).is(1);
    }

    static void shiftAsTheyWere() {
        Due.stands("as they all were before: n.", 34);
        Asked x = tens();
        x.shift(0, 0, 0, 1, 3).is(3);
        elements(x, 0, 10, 10, 11, 12);
        Asked y = tens();
        y.shift(0, 1, 0, 0, 3).is(3);
        elements(y, 0, 11, 12, 13, 13);
    }

    static void shiftAnswers() {
        Due.stands("BAD, -11 (either), -12 (no ROWS, or of unlike sorts), -13.", 34);
        Asked x = tens();
        x.body(0);
        x.keep(2, 0);
        x.row(3, 1, 4);
        int[][] refused = {{-1, 0, 0, 0, 1, -1}, {6, 0, 0, 0, 1, -1}, {0, 0, -1, 0, 1, -1}, {0, 0, 6, 0, 1, -1}, {6, 0, 4, 0, 1, -1},
            {4, 0, 6, 0, 1, -1}, {4, 0, 0, 0, 1, -11}, {0, 0, 4, 0, 1, -11}, {4, 0, 5, 0, 1, -11}, {4, 0, 2, 0, 1, -11},
            {2, 0, 4, 0, 1, -11}, {4, -1, 0, 0, 1, -11}, {2, 0, 0, 0, 1, -12}, {0, 0, 2, 0, 1, -12}, {2, 0, 2, 0, 0, -12},
            {0, 0, 3, 0, 1, -12}, {3, 0, 0, 0, 1, -12}, {0, 0, 3, 0, 0, -12}, {0, -1, 3, 0, 1, -12}, {0, 0, 2, -1, 1, -12},
            {0, -1, 1, 0, 1, -13}, {0, 0, 1, -1, 1, -13}, {0, -1, 1, 0, 0, -13}, {0, 0, 1, -1, 0, -13}, {0, 5, 1, 0, 0, -13},
            {0, 0, 1, 4, 0, -13}, {0, 2, 1, 0, 3, -13}, {0, 0, 1, 1, 3, -13}, {0, 0, 1, 0, 4, -13}, {0, 0, 0, 0, 5, -13},
            {0, 0, 1, 0, -1, -13}, {0, MAX, 1, 0, 1, -13}, {0, 1, 1, 1, MAX, -13}, {0, MAX, 1, 0, MAX, -13}, {0, 0, 1, 0, MIN, -13}};
        for (int[] r : refused) x.shift(r[0], r[1], r[2], r[3], r[4]).is(r[5]);
        elements(x, 0, 10, 11, 12, 13);
        elements(x, 1, 20, 21, 22);
    }

    static void taken() {
        Due.stands("What a SHELF holds, taken for a LOAD of KIND k (0 .. 7), or under it: its KIND.", 35);
        Asked x = new Asked();
        for (int kind = 0; kind < 8; kind++) x.body(kind);
        x.keep(0, 6);
        x.taken(0, 6).is(6);
        x.taken(0, 4).is(6);
        x.taken(0, 0).is(6);
        int[] beside = {1, 2, 3, 5, 7};
        for (int k : beside) x.taken(0, k).is(-12);
        // what is above is not under
        x.keep(0, 4);
        x.taken(0, 6).is(-12);
        x.taken(0, 4).is(4);
        x.keep(0, 0);
        x.taken(0, 0).is(0);
        for (int k = 1; k < 8; k++) x.taken(0, k).is(-12);
        x.keep(0, 7);
        x.taken(0, 7).is(7);
        x.taken(0, 8).is(-1);
        x.taken(0, -1).is(-1);
    }

    static void takenAnswers() {
        Due.stands("BAD, -11, -12.", 35);
        Asked x = new Asked();
        x.body(0);
        x.keep(1, 0);
        x.row(2, 0, 4);
        int[] badKind = {-1, 8, MIN, MAX};
        for (int k : badKind) {
            for (int s = 0; s < 3; s++) x.taken(s, k).is(-1);
        }
        x.taken(-1, 0).is(-1);
        x.taken(6, 0).is(-1);
        for (int k = 0; k < 8; k++) {
            x.taken(0, k).is(-11);
            x.taken(1, k).is(k == 0 ? 0 : -12);
            x.taken(2, k).is(-12);
        }
    }

    static void count() {
        Due.stands("How many: 0 LUMPS, 1 FLOORS, 2 LAWS, 3 bytes on THE TAPE, 4 changes that may be UNDONE, 5 LOADS that are kept, 6 bodies that ran in the latest act() (all, kept or not). BAD.", 36);
        Asked x = new Asked();
        for (int what = 0; what < 7; what++) x.count(what).is(0);
        int[] bad = {-1, 7, MIN, MAX};
        for (int what : bad) x.count(what).is(-1);
        x.lump(100, 0);
        x.floor(1, 909).floor(1, 909);
        x.law("1");
        x.law("1");
        x.law("1");
        x.feed("1234");
        for (int k = 1; k <= 5; k++) x.mend(0, 1, k);
        for (int k = 0; k < 6; k++) x.body(7);
        x.act(5, 3, 0);
        int[] due = {1, 2, 3, 4, 5, 6, 7};
        for (int what = 0; what < 7; what++) x.count(what).is(due[what]);
        x.undo();
        x.count(4).is(4);
        x.redo();
        x.count(4).is(5);
        x.law();
        x.count(3).is(0);
        x.act(6, 0, 0);
        x.count(6).is(0);
    }
}
