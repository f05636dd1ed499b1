/** Promises 1 to 10: the new object, lumps, the counterweight, the machine, the load as it lies, its shake. */
final class LumpsTest {
    public static void main(String[] args) {
        newObject();
        lump();
        lumpsFromRow();
        lumpsFromRowRefused();
        mend();
        of();
        counter();
        set();
        floor();
        load();
        shake();
        Due.end();
    }

    static void newObject() {
        MachineWalks x = new MachineWalks();
        for (int what = 0; what <= 6; what++) Due.due("new count(" + what + ")", x.count(what), 0);
        for (int what = 0; what <= 4; what++) Due.due("new load(" + what + ")", x.load(what), 0);
        int[] told = {310, 100, 0, 0, 9999};
        for (int what = 0; what <= 4; what++) Due.due("new set(" + what + ")", x.set(what, told[what]), told[what]);
        Due.due("new counter(0)", x.counter(0), 0);
        Due.due("new water(-1)", x.water(-1), -1);
        Due.due("new undo()", x.undo(), MachineWalks.STATE);
        Due.due("new redo()", x.redo(), MachineWalks.STATE);
        Due.due("new led(-1, 0)", x.led(-1, 0), MachineWalks.VOID);
        Due.due("new did(0)", x.did(0), MachineWalks.VOID);
        Due.due("new trace(0)", x.trace(0), MachineWalks.BAD);
        Due.due("new of(0, 0)", x.of(0, 0), MachineWalks.BAD);
        for (int shelf = 0; shelf < 6; shelf++) Due.due("new put(" + shelf + ")", x.put(shelf, 0, 1), -11);
    }

    static void lump() {
        MachineWalks x = new MachineWalks();
        int[][] bad = {{99, 0}, {0, 0}, {5100, 0}, {-1, 0}, {-100, 0}, {100, 120}, {100, -1}, {100, -10},
            {Integer.MIN_VALUE, 0}, {Integer.MAX_VALUE, 0}, {100, Integer.MIN_VALUE}, {100, Integer.MAX_VALUE}};
        for (int[] b : bad) Due.due("lump(" + b[0] + ", " + b[1] + ")", x.lump(b[0], b[1]), -1);
        Due.due("count(0)", x.count(0), 0);
        Due.due("lump(100, 0)", x.lump(100, 0), 0);
        Due.due("lump(5099, 119)", x.lump(5099, 119), 1);
        Due.due("lump(1234, 56)", x.lump(1234, 56), 2);
        int[][] are = {{1, 0, 0, 0}, {50, 99, 11, 9}, {12, 34, 5, 6}};
        for (int i = 0; i < 3; i++) {
            for (int k = 0; k < 4; k++) Due.due("of(" + i + ", " + k + ")", x.of(i, k), are[i][k]);
        }
        for (int i = 3; i < 12; i++) Due.due("lump", x.lump(100, 0), i);
        Due.due("the 13th lump", x.lump(100, 0), -3);
        Due.due("a bad 13th lump", x.lump(99, 0), -1);
        Due.due("count(0)", x.count(0), 12);
    }

    /** Bytes at places 0 on of a row on the shelf. */
    static MachineWalks withRow(int... bytes) {
        MachineWalks x = new MachineWalks();
        x.row(2, 0, bytes.length);
        for (int i = 0; i < bytes.length; i++) x.put(2, i, bytes[i]);
        return x;
    }

    static void lumpsFromRow() {
        MachineWalks x = withRow(1, 0, 0, 0, 50, 99, 11, 9, 7, 8, 9, 1, 3, 4, 5);
        Due.due("one of them", x.lumps(2, 0, 1), 1);
        Due.due("of(0, 0)", x.of(0, 0), 1);
        Due.due("count(0)", x.count(0), 1);
        Due.due("from 4, two of them", x.lumps(2, 4, 2), 2);
        int[] second = {50, 99, 11, 9};
        int[] third = {7, 8, 9, 1};
        for (int k = 0; k < 4; k++) Due.due("of(1, " + k + ")", x.of(1, k), second[k]);
        for (int k = 0; k < 4; k++) Due.due("of(2, " + k + ")", x.of(2, k), third[k]);
        Due.due("till the row ends within a four", x.lumps(2, 0, 12), 3);
        Due.due("from within a four", x.lumps(2, 8, 12), 1);
        Due.due("from beyond", x.lumps(2, 15, 1), 0);
        Due.due("from ahead", x.lumps(2, -4, 2), 0);
        Due.due("from far ahead", x.lumps(2, Integer.MIN_VALUE, 2), 0);
        Due.due("from far beyond", x.lumps(2, Integer.MAX_VALUE, 12), 0);
        Due.due("from far beyond", x.lumps(2, Integer.MAX_VALUE - 3, 12), 0);
        Due.due("an empty shelf", x.lumps(0, 0, 1), 0);
        Due.due("count(0)", x.count(0), 7);
        Due.due("till it is full but for two", x.lumps(2, 0, 3), 3);
        Due.due("till it is full", x.lumps(2, 0, 3), 2);
        Due.due("when it is full", x.lumps(2, 0, 3), 0);
        Due.due("not a change", x.undo(), -5);
        int[][] wrong = {{0, 0, 0, 0}, {51, 0, 0, 0}, {-1, 0, 0, 0}, {1, 100, 0, 0}, {1, -1, 0, 0}, {1, 0, 12, 0},
            {1, 0, -1, 0}, {1, 0, 0, 10}, {1, 0, 0, -1}, {-128, 0, 0, 0}, {127, 0, 0, 0}};
        for (int[] w : wrong) {
            MachineWalks y = withRow(5, 5, 5, 5, w[0], w[1], w[2], w[3], 5, 5, 5, 5);
            Due.due("one is not so", y.lumps(2, 0, 12), 1);
            Due.due("the first is not so", y.lumps(2, 4, 12), 0);
            Due.due("behind it", y.lumps(2, 8, 12), 1);
        }
    }

    static void lumpsFromRowRefused() {
        MachineWalks x = withRow(1, 0, 0, 0);
        int[][] bad = {{-1, 0, 1}, {6, 0, 1}, {2, 0, 0}, {2, 0, 13}, {2, 0, -1}, {0, 0, 13}};
        for (int[] b : bad) Due.due("lumps(" + b[0] + ", 0, " + b[2] + ")", x.lumps(b[0], b[1], b[2]), -1);
        for (int sort = 1; sort <= 4; sort++) {
            x.row(1, sort, 8);
            Due.due("a row of sort " + sort, x.lumps(1, 0, 1), -12);
            Due.due("likewise, and n is bad", x.lumps(1, 0, 13), -1);
        }
        x.body(0);
        x.keep(1, 0);
        Due.due("a load", x.lumps(1, 0, 1), -12);
        for (int i = 0; i < 12; i++) x.lump(100, 0);
        Due.due("a load, when it is full", x.lumps(1, 0, 1), -12);
        x.keep(1, -1);
        Due.due("nothing", x.lumps(1, 0, 1), 0);
        Due.due("count(0)", x.count(0), 12);
    }

    static void mend() {
        MachineWalks x = new MachineWalks();
        x.lump(1020, 34);
        x.lump(2030, 45);
        Due.due("DRY", x.mend(0, 0, 50), 10);
        Due.due("DRY", x.mend(0, 0, 1), 50);
        Due.due("WET", x.mend(0, 1, 99), 20);
        Due.due("WET", x.mend(0, 1, 0), 99);
        Due.due("ANGLE", x.mend(0, 2, 11), 3);
        Due.due("ANGLE", x.mend(0, 2, 0), 11);
        Due.due("the same", x.mend(1, 1, 30), 30);
        int[] are = {1, 0, 0, 4, 20, 30, 4, 5};
        for (int k = 0; k < 8; k++) Due.due("of(" + k / 4 + ", " + k % 4 + ")", x.of(k / 4, k % 4), are[k]);
        int[][] bad = {{2, 0, 1}, {-1, 0, 1}, {0, 3, 1}, {0, 4, 1}, {0, 5, 1}, {0, -1, 1}, {0, 0, 0}, {0, 0, 51}, {0, 1, -1},
            {0, 1, 100}, {0, 2, -1}, {0, 2, 12}, {12, 0, 1}, {Integer.MAX_VALUE, 0, 1}, {Integer.MIN_VALUE, 0, 1}};
        for (int[] b : bad) Due.due("mend(" + b[0] + ", " + b[1] + ", " + b[2] + ")", x.mend(b[0], b[1], b[2]), -1);
        Due.due("count(4)", x.count(4), 6);
        Due.due("the counterweight is not mended", x.counter(0), 0);
    }

    static void of() {
        MachineWalks x = new MachineWalks();
        Due.due("of none", x.of(0, 0), -1);
        x.lump(4321, 87);
        int[] are = {43, 21, 8, 7};
        for (int k = 0; k < 4; k++) Due.due("of(0, " + k + ")", x.of(0, k), are[k]);
        int[][] bad = {{0, 4}, {0, -1}, {1, 0}, {-1, 0}, {12, 0}, {Integer.MIN_VALUE, 0}, {0, Integer.MAX_VALUE}};
        for (int[] b : bad) Due.due("of(" + b[0] + ", " + b[1] + ")", x.of(b[0], b[1]), -1);
    }

    static void counter() {
        MachineWalks x = new MachineWalks();
        Due.due("counter(9911)", x.counter(9911), 0);
        Due.due("counter(105)", x.counter(105), 9911);
        int[] bad = {-1, -100, 12, 99, 9912, 9999, 10000, 10003, Integer.MIN_VALUE, Integer.MAX_VALUE};
        for (int b : bad) Due.due("counter(" + b + ")", x.counter(b), -1);
        Due.due("counter(11)", x.counter(11), 105);
        Due.due("an angle without weight is kept", x.counter(0), 11);
        x.counter(5003);
        Due.due("its X", x.load(1), 0);
        Due.due("its Y", x.load(2), 5000);
        x.counter(1107);
        Due.due("its X, cut", x.load(1), -952);
        Due.due("its Y, cut", x.load(2), -550);
    }

    static void set() {
        MachineWalks x = new MachineWalks();
        int[] least = {100, 1, 0, 0, 1};
        int[] most = {900, 9999, 9, 50, 9999};
        int[] first = {310, 100, 0, 0, 9999};
        for (int what = 0; what <= 4; what++) {
            Due.due("set(" + what + ") too little", x.set(what, least[what] - 1), -1);
            Due.due("set(" + what + ") too much", x.set(what, most[what] + 1), -1);
            Due.due("set(" + what + ") least", x.set(what, least[what]), first[what]);
            Due.due("set(" + what + ") most", x.set(what, most[what]), least[what]);
        }
        for (int what = 0; what <= 4; what++) Due.due("set(" + what + ")", x.set(what, most[what]), most[what]);
        Due.due("set(5)", x.set(5, 5), -1);
        Due.due("set(-1)", x.set(-1, 5), -1);
        Due.due("no change to be undone", x.undo(), -5);
    }

    static void floor() {
        MachineWalks x = new MachineWalks();
        int[][] bad = {{0, 909}, {-1, 909}, {1000, 909}, {1, -1}, {1, 19}, {1, 99}, {1, 1900}, {1, 1819}, {1, 1899},
            {Integer.MAX_VALUE, 0}, {1, Integer.MIN_VALUE}, {1, Integer.MAX_VALUE}};
        for (int[] b : bad) Due.due("floor(" + b[0] + ", " + b[1] + ")", x.floor(b[0], b[1]), -1);
        Due.due("floor(1, 0)", x.floor(1, 0), 0);
        Due.due("floor(999, 1818)", x.floor(999, 1818), 1);
        Due.due("floor(5, 18)", x.floor(5, 18), 2);
        Due.due("count(1)", x.count(1), 3);
        Due.due("floor(5, 1800)", x.floor(5, 1800), 3);
        Due.due("a fifth floor", x.floor(5, 909), -3);
        Due.due("a bad fifth floor", x.floor(0, 909), -1);
        Due.due("count(1)", x.count(1), 4);
        // GRIP 1, SLOPE -9, -9: one hop by the slope and by what is above the grip
        x.lump(5050, 0);
        Due.law(x, "100");
        x.run(0, 100001, 0, 0);
        Due.due("SHAKE", x.led(0, 2), 10);
        Due.due("x", x.led(0, 3), 0);
        Due.due("y", x.led(0, 4), -9);
        x.run(1, 100001, 0, 0);
        Due.due("x on a floor that holds", x.led(0, 3), 0);
        x.run(2, 100001, 0, 0);
        Due.due("x, SLOPE -9, 9", x.led(0, 3), -4);
        Due.due("y, SLOPE -9, 9", x.led(0, 4), 9);
        x.run(3, 100001, 0, 0);
        Due.due("x, SLOPE 9, -9", x.led(0, 3), 14);
        Due.due("y, SLOPE 9, -9", x.led(0, 4), -9);
    }

    static void load() {
        MachineWalks x = new MachineWalks();
        x.lump(1020, 10);
        int[] one = {31, 2598, 1500, 1, 20};
        for (int k = 0; k < 5; k++) Due.due("load(" + k + ") of one", x.load(k), one[k]);
        Due.due("load(5)", x.load(5), -2000000000);
        Due.due("load(-1)", x.load(-1), -2000000000);
        MachineWalks cuts = new MachineWalks();
        cuts.lump(100, 10);
        cuts.lump(100, 10);
        cuts.lump(100, 10);
        Due.due("X, cut each", cuts.load(1), 258);
        MachineWalks below = new MachineWalks();
        below.lump(100, 50);
        below.lump(100, 50);
        Due.due("X below 0, cut each", below.load(1), -172);
        Due.due("Y", below.load(2), 100);
        Due.due("LOPSIDED, cut", below.load(0), 2);
        int[] c = {1000, 866, 500, 0, -500, -866, -1000, -866, -500, 0, 500, 866};
        for (int a = 0; a < 12; a++) {
            MachineWalks y = new MachineWalks();
            y.lump(1000, 10 * a);
            Due.due("X at " + a, y.load(1), c[a]);
            Due.due("Y at " + a, y.load(2), c[(a + 9) % 12]);
            Due.due("SIDE at " + a, y.load(3), a);
            y.counter(1000 + (a + 6) % 12);
            Due.due("evened out at " + a, y.load(0), 0);
            Due.due("SIDE of none at " + a, y.load(3), 0);
        }
        MachineWalks even = new MachineWalks();
        even.lump(1000, 10);
        even.lump(1000, 20);
        Due.due("of like SIDES the least", even.load(3), 1);
        Due.due("X + 3 / 8 Y", even.load(0), (1366 + 3 * 1366 / 8) / 100);
        even.lump(1055, 110);
        Due.due("WET of all", even.load(4), 55);
    }

    static void shake() {
        MachineWalks x = new MachineWalks();
        x.lump(5050, 60);
        int[][] due = {{0, 0}, {9, 0}, {10, 0}, {100, 10}, {300, 559}, {309, 559}, {310, 961}, {319, 961}, {1200, 106},
            {-1, -1}, {1201, -1}, {Integer.MIN_VALUE, -1}, {Integer.MAX_VALUE, -1}};
        for (int[] d : due) Due.due("shake(" + d[0] + ")", x.shake(d[0]), d[1]);
        x.set(0, 409);
        Due.due("with BEAT 409, at 400", x.shake(400), 1600);
        Due.due("with BEAT 409, at 410", x.shake(410), 928);
        x.set(0, 900);
        x.set(1, 1);
        x.counter(106);
        Due.due("LOPSIDED", x.load(0), 101);
        Due.due("at most", x.shake(900), 99999);
        x.counter(0);
        x.mend(0, 1, 0);
        x.set(1, 9999);
        Due.due("much DAMP", x.shake(900), 40);
        x.set(1, 4);
        Due.due("just held", x.shake(909), 99999);
        x.set(1, 5);
        Due.due("not held", x.shake(909), 81000);
    }
}
