/** Promises 30 to 36: shelves that hold nothing, a load or a row; how many there are of all. */
final class ShelvesTest {
    private static final int MIN = Integer.MIN_VALUE, MAX = Integer.MAX_VALUE;

    public static void main(String[] args) {
        keep();
        row();
        put();
        element();
        shift();
        shiftRefused();
        taken();
        count();
        Due.end();
    }

    static void keep() {
        MachineWalks x = new MachineWalks();
        Due.due("no such load", x.keep(0, 0), -1);
        x.body(3);
        int[][] bad = {{-1, 0}, {6, 0}, {0, 1}, {0, -2}, {6, -1}, {MIN, 0}, {MAX, 0}, {0, MIN}, {0, MAX}};
        for (int[] b : bad) Due.due("keep(" + b[0] + ", " + b[1] + ")", x.keep(b[0], b[1]), -1);
        Due.due("nothing yet", x.taken(0, 0), -11);
        Due.due("keep(0, 0)", x.keep(0, 0), 1);
        Due.due("keep(5, 0)", x.keep(5, 0), 1);
        Due.due("the load", x.taken(0, 0), 3);
        Due.due("the load", x.taken(5, 0), 3);
        x.row(0, 0, 4);
        Due.due("a row instead", x.taken(0, 0), -12);
        Due.due("the load instead", x.keep(0, 0), 1);
        Due.due("no row then", x.put(0, 0, 1), -12);
        Due.due("nothing instead", x.keep(0, -1), 1);
        Due.due("nothing then", x.put(0, 0, 1), -11);
        Due.due("nothing then", x.taken(0, 0), -11);
        Due.due("count(5)", x.count(5), 1);
    }

    static void row() {
        MachineWalks x = new MachineWalks();
        int[][] bad = {{-1, 0, 1}, {6, 0, 1}, {0, -1, 1}, {0, 5, 1}, {0, 0, 61}, {6, 0, -1}, {0, 5, -1}, {MIN, 0, 0},
            {MAX, 0, 0}, {0, MIN, 0}, {0, MAX, 0}, {0, 0, MAX}};
        for (int[] b : bad) Due.due("row(" + b[0] + ", " + b[1] + ", " + b[2] + ")", x.row(b[0], b[1], b[2]), -1);
        Due.due("below 0", x.row(0, 0, -1), -14);
        Due.due("far below 0", x.row(0, 4, MIN), -14);
        Due.due("nothing came", x.put(0, 0, 0), -11);
        for (int sort = 0; sort < 5; sort++) {
            Due.due("row of none", x.row(sort, sort, 0), 1);
            Due.due("no place", x.put(sort, 0, 1), -13);
            Due.due("row of 60", x.row(sort, sort, 60), 1);
            for (int i = 0; i < 60; i += 59) {
                Due.due("0 at first", x.element(sort, i), 0);
                Due.due("put", x.put(sort, i, 1), 1);
                Due.due("1 then", x.element(sort, i), 1);
            }
            Due.due("no place", x.put(sort, 60, 1), -13);
            Due.due("what is refused", x.row(sort, sort, 61), -1);
            Due.due("what is refused", x.row(sort, sort, -1), -14);
            Due.due("changes nothing", x.element(sort, 59), 1);
            Due.due("row anew", x.row(sort, 4 - sort, 60), 1);
            Due.due("0 again", x.element(sort, 59), 0);
            Due.due("0 again", x.element(sort, 0), 0);
        }
        x.put(0, 30, 1);
        x.row(0, 0, 5);
        x.row(0, 0, 60);
        Due.due("0 beyond what was shorter", x.element(0, 30), 0);
    }

    static void put() {
        MachineWalks x = new MachineWalks();
        long[] v = {0x1234567890abcdefL, -1, 128, 32768, 1L << 31, 1L << 40, Long.MIN_VALUE, 256, 2, 0};
        long[][] due = {
            {(byte) 0xef, -1, -128, 0, 0, 0, 0, 0, 2, 0},
            {(short) 0xcdef, -1, 128, -32768, 0, 0, 0, 256, 2, 0},
            {0x90abcdef, -1, 128, 32768, MIN, 0, 0, 256, 2, 0},
            v,
            {1, 1, 1, 1, 1, 1, 1, 1, 1, 0}};
        for (int sort = 0; sort < 5; sort++) {
            x.row(1, sort, 3);
            for (int k = 0; k < v.length; k++) {
                Due.due("put", x.put(1, 1, v[k]), 1);
                Due.due("sort " + sort + ", " + v[k], x.element(1, 1), due[sort][k]);
            }
            Due.due("its neighbour", x.element(1, 0), 0);
            Due.due("its neighbour", x.element(1, 2), 0);
        }
        x.body(0);
        x.keep(2, 0);
        int[][] refused = {{-1, 0, -1}, {6, 0, -1}, {MIN, 0, -1}, {MAX, 0, -1}, {0, 0, -11}, {0, -1, -11}, {2, 0, -12}, {2, 99, -12},
            {1, 3, -13}, {1, -1, -13}, {1, MIN, -13}, {1, MAX, -13}, {1, 60, -13}};
        for (int[] r : refused) {
            Due.due("put(" + r[0] + ", " + r[1] + ")", x.put(r[0], r[1], 7), r[2]);
            Due.due("element(" + r[0] + ", " + r[1] + ")", x.element(r[0], r[1]), Long.MIN_VALUE);
        }
    }

    static void element() {
        MachineWalks x = new MachineWalks();
        for (int shelf = 0; shelf < 6; shelf++) {
            x.row(shelf, 3, 10);
            for (int i = 0; i < 10; i++) x.put(shelf, i, 100L * shelf + i);
        }
        for (int shelf = 0; shelf < 6; shelf++) {
            for (int i = 0; i < 10; i++) {
                Due.due("element(" + shelf + ", " + i + ")", x.element(shelf, i), 100L * shelf + i);
            }
            Due.due("beyond", x.element(shelf, 10), Long.MIN_VALUE);
        }
    }

    /** Rows of ints 0 .. 9 on shelf 0 and 100 .. 109 on shelf 1. */
    static MachineWalks rows() {
        MachineWalks x = new MachineWalks();
        x.row(0, 2, 10);
        x.row(1, 2, 10);
        for (int i = 0; i < 10; i++) {
            x.put(0, i, i);
            x.put(1, i, 100 + i);
        }
        return x;
    }

    static void elements(MachineWalks x, String call, int shelf, int... due) {
        for (int i = 0; i < due.length; i++) Due.due(call + ", element(" + shelf + ", " + i + ")", x.element(shelf, i), due[i]);
    }

    static void shift() {
        MachineWalks x = rows();
        Due.due("to another one", x.shift(0, 2, 1, 5, 3), 3);
        elements(x, "to another one", 1, 100, 101, 102, 103, 104, 2, 3, 4, 108, 109);
        elements(x, "from it", 0, 0, 1, 2, 3, 4, 5, 6, 7, 8, 9);
        Due.due("onward in the same", x.shift(0, 0, 0, 2, 8), 8);
        elements(x, "onward in the same", 0, 0, 1, 0, 1, 2, 3, 4, 5, 6, 7);
        x = rows();
        Due.due("back in the same", x.shift(0, 2, 0, 0, 8), 8);
        elements(x, "back in the same", 0, 2, 3, 4, 5, 6, 7, 8, 9, 8, 9);
        Due.due("none, at the end", x.shift(0, 10, 1, 10, 0), 0);
        Due.due("all", x.shift(1, 0, 0, 0, 10), 10);
        elements(x, "all", 0, 100, 101, 102, 103, 104, 105, 106, 107, 108, 109);
        x.row(2, 2, 4);
        Due.due("to a shorter one", x.shift(0, 6, 2, 0, 4), 4);
        elements(x, "to a shorter one", 2, 106, 107, 108, 109);
        for (int sort = 0; sort < 5; sort++) {
            x.row(3, sort, 2);
            x.row(4, sort, 3);
            x.put(3, 1, 1);
            Due.due("likes of sort " + sort, x.shift(3, 0, 4, 1, 2), 2);
            Due.due("likes of sort " + sort, x.element(4, 2), 1);
        }
    }

    static void shiftRefused() {
        MachineWalks x = rows();
        x.body(0);
        x.keep(2, 0);
        x.row(3, 1, 10);
        x.row(5, 2, 4);
        int[][] refused = {{-1, 0, 0, 0, 1, -1}, {0, 0, 6, 0, 1, -1}, {6, 0, 4, 0, 1, -1}, {4, 0, -1, 0, 1, -1},
            {4, 0, 0, 0, 1, -11}, {0, 0, 4, 0, 1, -11}, {4, 0, 4, 0, 0, -11}, {4, 0, 2, 0, 1, -11}, {2, 0, 4, 0, 1, -11},
            {4, -1, 0, 0, 1, -11}, {2, 0, 0, 0, 1, -12}, {0, 0, 2, 0, 1, -12}, {2, 0, 2, 0, 0, -12}, {0, 0, 3, 0, 1, -12},
            {3, 0, 0, 0, 0, -12}, {0, 0, 3, 99, 99, -12}, {0, -1, 1, 0, 1, -13}, {0, 0, 1, -1, 1, -13}, {0, 0, 1, 0, 11, -13},
            {0, 3, 1, 0, 8, -13}, {0, 0, 1, 3, 8, -13}, {0, 11, 1, 0, 0, -13}, {0, 0, 1, 11, 0, -13}, {0, 0, 1, 0, -1, -13},
            {0, 0, 5, 0, 5, -13}, {5, 0, 0, 0, 5, -13}, {0, MAX, 1, 0, 1, -13}, {0, 0, 1, MAX, 1, -13}, {0, 1, 1, 1, MAX, -13},
            {0, MIN, 1, 0, 1, -13}, {0, 0, 1, 0, MIN, -13}, {0, -1, 1, 0, 0, -13}, {MIN, 0, 0, 0, 0, -1}, {0, 0, MAX, 0, 0, -1}};
        for (int[] r : refused) {
            Due.due("shift(" + r[0] + ", " + r[1] + ", " + r[2] + ", " + r[3] + ", " + r[4] + ")",
                x.shift(r[0], r[1], r[2], r[3], r[4]), r[5]);
        }
        elements(x, "refused", 0, 0, 1, 2, 3, 4, 5, 6, 7, 8, 9);
        elements(x, "refused", 1, 100, 101, 102, 103, 104, 105, 106, 107, 108, 109);
    }

    static void taken() {
        // by KINDS held, the KINDS for which they can be taken
        int[][] under = {{0}, {0, 1}, {0, 2}, {0, 2, 3}, {0, 4}, {0, 1, 5}, {0, 4, 6}, {0, 7}};
        MachineWalks x = new MachineWalks();
        for (int kind = 7; kind >= 0; kind--) {
            int body = x.body(kind);
            x.keep(3, body);
            for (int k = 0; k < 8; k++) {
                int due = -12;
                for (int u : under[kind]) {
                    if (u == k) due = kind;
                }
                Due.due("KIND " + kind + ", taken(3, " + k + ")", x.taken(3, k), due);
            }
        }
        int[][] refused = {{-1, 0, -1}, {6, 0, -1}, {3, 8, -1}, {3, -1, -1}, {0, 8, -1}, {0, 0, -11}, {0, 7, -11}, {MIN, 0, -1},
            {3, MAX, -1}};
        for (int[] r : refused) Due.due("taken(" + r[0] + ", " + r[1] + ")", x.taken(r[0], r[1]), r[2]);
        for (int sort = 0; sort < 5; sort++) {
            x.row(3, sort, 5);
            Due.due("a row", x.taken(3, 0), -12);
        }
    }

    static void count() {
        MachineWalks x = new MachineWalks();
        int[] bad = {-1, 7, MIN, MAX};
        for (int b : bad) Due.due("count(" + b + ")", x.count(b), -1);
        x.lump(100, 0);
        x.lump(100, 0);
        x.lump(100, 0);
        x.floor(1, 909);
        x.floor(1, 909);
        for (int i = 0; i < 4; i++) Due.law(x, "" + i);
        x.feed(4, 0);
        x.feed(3, 0);
        x.mend(0, 0, 2);
        for (int i = 0; i < 6; i++) x.body(6);
        x.act(0, 3, 0);
        int[] due = {3, 2, 4, 7, 1, 6, 8};
        for (int k = 0; k < 7; k++) Due.due("count(" + k + ")", x.count(k), due[k]);
        x.undo();
        Due.due("count(4) behind an undo()", x.count(4), 0);
        x.redo();
        Due.due("count(4) behind a redo()", x.count(4), 1);
        x.keep(0, 0);
        Due.due("count(5) behind a keep()", x.count(5), 6);
    }
}
