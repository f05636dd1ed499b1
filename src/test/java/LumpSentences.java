/** Sentences of Terms 1 (lumps) and 2 (the machine), and of promises 1 to 10: each method stands for one of them. */
final class LumpSentences {
    private static final int MIN = Integer.MIN_VALUE, MAX = Integer.MAX_VALUE;
    private static final int[] C = {1000, 866, 500, 0, -500, -866, -1000, -866, -500, 0, 500, 866};

    private LumpSentences() {
    }

    static void all() {
        newObject();
        angles();
        cosines();
        sines();
        lumpsAsTheyCome();
        dry();
        wet();
        anAngle();
        holds();
        acrossCutEach();
        acrossWithCounterweight();
        along();
        counterweight();
        lopsided();
        side();
        lump();
        lumpsFromPlace();
        lumpsOfNoBytes();
        lumpsByFours();
        lumpsOfMissingRow();
        lumpsTillRowEnds();
        lumpsTillOneIsNotSo();
        lumpsTillFull();
        mend();
        of();
        counter();
        set();
        beat();
        damp();
        floors();
        grip();
        slope();
        floor();
        load();
        shakeAtPace();
        paceAndBeatCut();
        stiffness();
        shakeCut();
        shakeAtMost();
    }

    static void newObject() {
        Due.stands("An empty drum.", 1);
        Asked x = new Asked();
        x.count(0).is(0);
        x.of(0, 0).is(-1);
        for (int what = 0; what <= 4; what++) x.load(what).is(0);
    }

    /** The answer of lumps() from a row of just these bytes. */
    static Asked fromRow(long... bytes) {
        return new Asked().rowOf(0, 0, bytes).lumps(0, 0, 1);
    }

    static void angles() {
        Due.stands("ANGLES 0 .. 11 of the drum", 2, 3, 4, 6);
        Asked x = new Asked();
        x.lump(100, -10).is(-1);
        x.lump(100, 0).is(0);
        x.lump(100, 110).is(1);
        x.lump(100, 120).is(-1);
        x.mend(0, 2, -1).is(-1);
        x.mend(0, 2, 11).is(0);
        x.mend(0, 2, 0).is(11);
        x.mend(0, 2, 12).is(-1);
        x.counter(100).is(0);
        x.counter(111).is(100);
        x.counter(112).is(-1);
        fromRow(1, 0, -1, 0).is(0);
        fromRow(1, 0, 0, 0).is(1);
        fromRow(1, 0, 11, 0).is(1);
        fromRow(1, 0, 12, 0).is(0);
    }

    static void cosines() {
        Due.stands("with C: 1000, 866, 500, 0, -500, -866, -1000, -866, -500, 0, 500, 866", 9);
        for (int a = 0; a < 12; a++) new Asked().lump(1000, 10 * a).load(1).is(C[a]);
    }

    static void sines() {
        Due.stands("S of an ANGLE: C of the ANGLE 3 less (round).", 9);
        int[] behindTheTurn = {0, 500, 866};
        for (int a = 0; a < 3; a++) new Asked().lump(1000, 10 * a).load(2).is(behindTheTurn[a]);
        for (int a = 3; a < 12; a++) new Asked().lump(1000, 10 * a).load(2).is(C[a - 3]);
    }

    static void lumpsAsTheyCome() {
        Due.stands("LUMPS 0 .. 11, as they come:", 2, 3, 36);
        Asked x = new Asked();
        x.rowOf(0, 0, 6, 0, 0, 0);
        for (int i = 0; i < 12; i++) {
            if (i == 5) x.lumps(0, 0, 1).is(1);
            else x.lump(100 * (i + 1), 0).is(i);
        }
        x.count(0).is(12);
        x.lump(100, 0).is(-3);
        x.lumps(0, 0, 1).is(0);
        x.count(0).is(12);
        for (int i = 0; i < 12; i++) x.of(i, 0).is(i + 1);
        x.of(12, 0).is(-1);
    }

    static void dry() {
        Due.stands("DRY (1 .. 50)", 2, 3, 4);
        Asked x = new Asked();
        x.lump(0, 0).is(-1);
        x.lump(99, 0).is(-1);
        x.lump(100, 0).is(0);
        x.lump(5000, 0).is(1);
        x.lump(5099, 0).is(2);
        x.lump(5100, 0).is(-1);
        x.mend(0, 0, 0).is(-1);
        x.mend(0, 0, 50).is(1);
        x.mend(0, 0, 1).is(50);
        x.mend(0, 0, 51).is(-1);
        fromRow(0, 0, 0, 0).is(0);
        fromRow(1, 0, 0, 0).is(1);
        fromRow(50, 0, 0, 0).is(1);
        fromRow(51, 0, 0, 0).is(0);
    }

    static void wet() {
        Due.stands("WET (0 .. 99)", 2, 3, 4);
        Asked x = new Asked();
        x.lump(100, 0).is(0);
        x.of(0, 1).is(0);
        x.lump(199, 0).is(1);
        x.of(1, 1).is(99);
        x.mend(0, 1, -1).is(-1);
        x.mend(0, 1, 99).is(0);
        x.mend(0, 1, 0).is(99);
        x.mend(0, 1, 100).is(-1);
        fromRow(1, -1, 0, 0).is(0);
        fromRow(1, 0, 0, 0).is(1);
        fromRow(1, 99, 0, 0).is(1);
        fromRow(1, 100, 0, 0).is(0);
    }

    static void anAngle() {
        Due.stands("an ANGLE", 2, 3, 4);
        Asked x = new Asked();
        for (int a = 0; a < 12; a++) x.lump(100, 10 * a).of(a, 2).is(a);
        for (int a = 0; a < 12; a++) x.mend(0, 2, a).is(a > 0 ? a - 1 : 0);
        x.of(0, 2).is(11);
    }

    static void holds() {
        Due.stands("HOLDS water (0 .. 9).", 2, 3, 5);
        Asked x = new Asked();
        x.lump(100, 0).of(0, 3).is(0);
        x.lump(100, 9).of(1, 3).is(9);
        x.lump(100, -1).is(-1);
        fromRow(1, 0, 0, -1).is(0);
        fromRow(1, 0, 0, 0).is(1);
        fromRow(1, 0, 0, 9).is(1);
        fromRow(1, 0, 0, 10).is(0);
    }

    static void acrossCutEach() {
        Due.stands("X of the load: the sum over LUMPS of (DRY and WET) C / 10 (cut each)", 9);
        // 866 / 10 is 86 each, not 259 of all three; 7 of DRY and WET together are 606, not 259 and 346
        new Asked().lump(100, 10).lump(100, 10).lump(100, 10).load(1).is(258);
        new Asked().lump(100, 50).lump(100, 50).lump(100, 50).load(1).is(-258);
        new Asked().lump(304, 10).load(1).is(606);
        new Asked().lump(5099, 0).load(1).is(14900);
    }

    static void acrossWithCounterweight() {
        Due.stands(", and of the COUNTERWEIGHT;", 9);
        Asked x = new Asked().lump(100, 10);
        x.counter(101);
        x.load(1).is(172);
        x.counter(107);
        x.load(1).is(0);
        x.counter(0);
        x.load(1).is(86);
        Asked most = new Asked();
        most.counter(9906);
        most.load(1).is(-9900);
        most.counter(9911);
        most.load(1).is(8573);
    }

    static void along() {
        Due.stands("Y likewise by S.", 9);
        new Asked().lump(100, 20).lump(100, 20).lump(100, 20).load(2).is(258);
        new Asked().lump(100, 80).lump(100, 80).lump(100, 80).load(2).is(-258);
        Asked x = new Asked().lump(304, 20);
        x.load(2).is(606);
        x.counter(102);
        x.load(2).is(692);
        x.counter(108);
        x.load(2).is(520);
        Asked most = new Asked();
        most.counter(9903);
        most.load(2).is(9900);
        most.counter(9911);
        most.load(2).is(-4950);
    }

    static void counterweight() {
        Due.stands("COUNTERWEIGHT: 0 .. 99 at an ANGLE (0 at first).", 6);
        Asked x = new Asked();
        x.counter(-100).is(-1);
        x.counter(-1).is(-1);
        x.counter(9900).is(0);
        x.counter(10000).is(-1);
        x.counter(11).is(9900);
        x.counter(0).is(11);
    }

    static void lopsided() {
        Due.stands("LOPSIDED: the greater of the sizes of X and Y and 3 / 8 (cut) of the lesser, by 100 (cut).", 9);
        // sizes 606 and 250: 606 and 93 (of 93.75) are 699
        int[][] turned = {{0, 40}, {0, 80}, {30, 70}, {30, 110}, {60, 20}, {60, 100}, {90, 10}, {90, 50}};
        for (int[] t : turned) new Asked().lump(100, t[0]).lump(700, t[1]).load(0).is(6);
        // 1645 and 356 (950 by 3 / 8, not 3 times 118) are 2001
        new Asked().lump(1900, 10).load(0).is(20);
        // 86 and 18 are 104; 14 and 18 (of 50) are 32
        new Asked().lump(100, 10).load(0).is(1);
        Asked x = new Asked().lump(100, 0);
        x.counter(105);
        x.load(0).is(0);
        x.counter(3);
        x.load(0).is(1);
    }

    static void side() {
        Due.stands("SIDE: the ANGLE for which X C + Y S is greatest (of like ones the least).", 9);
        new Asked().load(3).is(0);
        for (int a = 0; a < 12; a++) new Asked().lump(1000, 10 * a).load(3).is(a);
        // pairs of lumps between whose sum two neighbours are alike: the ANGLE and the lump's DRY of each, then SIDE
        int[][] alike = {{3, 5, 10, 5, 0}, {0, 1, 3, 1, 1}, {0, 5, 5, 5, 2}, {1, 5, 6, 5, 3}, {2, 1, 7, 1, 4}, {3, 5, 8, 5, 5},
            {4, 5, 9, 5, 6}, {5, 1, 10, 1, 7}, {6, 5, 11, 5, 8}, {0, 5, 7, 5, 9}, {0, 1, 9, 1, 10}, {2, 5, 9, 5, 0}};
        for (int[] a : alike) new Asked().lump(100 * a[1], 10 * a[0]).lump(100 * a[3], 10 * a[2]).load(3).is(a[4]);
    }

    static void lump() {
        Due.stands("A LUMP: its number. dw: 100 DRY and WET; ah: 10 times the ANGLE, and HOLDS.", 2);
        Asked x = new Asked();
        x.lump(199, 9).is(0);
        x.lump(200, 10).is(1);
        int[] told = {1, 99, 0, 9, 2, 0, 1, 0};
        for (int k = 0; k < 8; k++) x.of(k / 4, k % 4).is(told[k]);
        int[][] bad = {{-1, 0}, {-100, 0}, {-199, 0}, {MIN, 0}, {MAX, 0}, {100, -1}, {100, -9}, {100, MIN}, {100, MAX}};
        for (int[] b : bad) x.lump(b[0], b[1]).is(-1);
        x.count(0).is(2);
    }

    static void lumpsFromPlace() {
        Due.stands("LUMPS FROM A ROW on a SHELF, from place i on, n (1 .. 12) of them: how many came.", 3);
        long[] bytes = new long[49];
        for (int i = 0; i < 49; i++) bytes[i] = i == 48 ? 7 : 1;
        Asked x = new Asked().rowOf(5, 0, bytes);
        x.lumps(5, 0, 0).is(-1);
        x.lumps(5, 0, -1).is(-1);
        x.lumps(5, 0, 13).is(-1);
        x.lumps(5, 0, MAX).is(-1);
        x.lumps(-1, 0, 1).is(-1);
        x.lumps(6, 0, 1).is(-1);
        x.lumps(5, -1, 1).is(0);
        x.lumps(5, -4, 2).is(0);
        x.lumps(5, MIN, 12).is(0);
        x.lumps(5, 46, 1).is(0);
        x.lumps(5, 49, 1).is(0);
        x.lumps(5, MAX, 12).is(0);
        x.lumps(5, MAX - 3, 12).is(0);
        x.count(0).is(0);
        x.lumps(5, 45, 1).is(1);
        x.of(0, 3).is(7);
        new Asked().rowOf(5, 0, bytes).lumps(5, 0, 12).is(12);
        new Asked().rowOf(5, 0, bytes).lumps(5, 0, 1).is(1);
    }

    static void lumpsOfNoBytes() {
        Due.stands("BAD, -12 (no ROW of bytes; a SHELF that holds nothing is missing).", 3);
        Asked x = new Asked();
        x.lumps(0, 0, 1).is(0);
        x.lumps(0, 0, 13).is(-1);
        x.rowOf(0, 0, 1, 0, 0, 0).lumps(0, 0, 1).is(1);
        for (int sort = 1; sort <= 4; sort++) {
            x.rowOf(0, sort, 1, 1, 1, 1);
            x.lumps(0, 0, 1).is(-12);
            x.lumps(0, 9, 1).is(-12);
            x.lumps(0, 0, 13).is(-1);
        }
        x.body(0);
        x.keep(0, 0);
        x.lumps(0, 0, 1).is(-12);
        x.keep(0, -1);
        x.lumps(0, 0, 1).is(0);
        x.count(0).is(1);
    }

    static void lumpsByFours() {
        Due.stands("LUMPS FROM A ROW of bytes, from a place on: by fours DRY, WET, ANGLE, HOLDS: n of them;", 3);
        Asked x = new Asked().rowOf(0, 0, 9, 10, 20, 3, 4, 50, 99, 11, 9, 1, 0, 0, 0);
        x.lumps(0, 1, 2).is(2);
        int[] told = {10, 20, 3, 4, 50, 99, 11, 9};
        for (int k = 0; k < 8; k++) x.of(k / 4, k % 4).is(told[k]);
        x.count(0).is(2);
        x.lumps(0, 9, 1).is(1);
        x.of(2, 0).is(1);
    }

    static void lumpsOfMissingRow() {
        Due.stands("it ends where the row is missing,", 3);
        Asked x = new Asked();
        for (int n = 1; n <= 12; n += 11) x.lumps(3, 0, n).is(0);
        x.row(3, 0, 0);
        x.lumps(3, 0, 12).is(0);
        x.rowOf(3, 0, 1, 0, 0, 0);
        x.lumps(3, 0, 12).is(1);
    }

    static void lumpsTillRowEnds() {
        Due.stands("ends (within a four, too),", 3);
        for (int length = 0; length <= 9; length++) {
            long[] bytes = new long[length];
            for (int i = 0; i < length; i++) bytes[i] = 1;
            new Asked().rowOf(0, 0, bytes).lumps(0, 0, 12).is(length / 4);
            if (length > 0) new Asked().rowOf(0, 0, bytes).lumps(0, 1, 12).is((length - 1) / 4);
        }
        long[] longest = new long[60];
        for (int i = 0; i < 60; i++) longest[i] = 1;
        new Asked().rowOf(0, 0, longest).lumps(0, 56, 12).is(1);
        new Asked().rowOf(0, 0, longest).lumps(0, 57, 12).is(0);
    }

    static void lumpsTillOneIsNotSo() {
        Due.stands("one is not so,", 3);
        long[][] wrong = {{0, 0, 0, 0}, {51, 0, 0, 0}, {1, -1, 0, 0}, {1, 100, 0, 0}, {1, 0, -1, 0}, {1, 0, 12, 0},
            {1, 0, 0, -1}, {1, 0, 0, 10}, {-128, 0, 0, 0}, {1, 127, 0, 0}};
        for (long[] w : wrong) {
            Asked x = new Asked().rowOf(0, 0, 1, 0, 0, 0, w[0], w[1], w[2], w[3], 1, 0, 0, 0);
            x.lumps(0, 0, 12).is(1);
            x.lumps(0, 4, 1).is(0);
            x.lumps(0, 8, 1).is(1);
            x.count(0).is(2);
        }
    }

    static void lumpsTillFull() {
        Due.stands("or LUMPS are FULL: those ahead came.", 3);
        for (int there = 9; there <= 12; there++) {
            Asked x = new Asked().rowOf(0, 0, 1, 0, 0, 0, 2, 0, 0, 0, 3, 0, 0, 0);
            for (int i = 0; i < there; i++) x.lump(900, 0);
            x.lumps(0, 0, 3).is(12 - there);
            x.count(0).is(12);
            for (int i = there; i < 12; i++) x.of(i, 0).is(i - there + 1);
        }
    }

    static void mend() {
        Due.stands("DRY (what 0), WET (1), ANGLE (2) of a LUMP becomes v: what it was. BAD.", 4);
        Asked x = new Asked().lump(1020, 34).lump(1121, 45);
        x.mend(0, -1, 1).is(-1);
        x.mend(0, 0, 12).is(10);
        x.mend(0, 1, 22).is(20);
        x.mend(0, 2, 5).is(3);
        x.mend(0, 3, 5).is(-1);
        x.mend(-1, 0, 1).is(-1);
        x.mend(1, 0, 13).is(11);
        x.mend(2, 0, 1).is(-1);
        x.mend(MIN, 0, 1).is(-1);
        x.mend(MAX, 0, 1).is(-1);
        x.mend(0, MAX, 1).is(-1);
        int[] told = {12, 22, 5, 4, 13, 21, 4, 5};
        for (int k = 0; k < 8; k++) x.of(k / 4, k % 4).is(told[k]);
    }

    static void of() {
        Due.stands("Of a LUMP: 0 DRY, 1 WET, 2 ANGLE, 3 HOLDS. BAD.", 5);
        Asked x = new Asked();
        x.of(0, 0).is(-1);
        x.lump(1020, 34).lump(1121, 45);
        int[] told = {10, 20, 3, 4, 11, 21, 4, 5};
        for (int k = 0; k < 8; k++) x.of(k / 4, k % 4).is(told[k]);
        int[][] bad = {{0, -1}, {0, 4}, {-1, 0}, {2, 0}, {MIN, 0}, {MAX, 0}, {0, MIN}, {0, MAX}};
        for (int[] b : bad) x.of(b[0], b[1]).is(-1);
    }

    static void counter() {
        Due.stands("The COUNTERWEIGHT (wa: 100 times it, and the ANGLE): it becomes that: what it was (likewise). BAD.", 6);
        Asked x = new Asked();
        x.counter(100).is(0);
        x.counter(9911).is(100);
        x.counter(12).is(-1);
        x.counter(99).is(-1);
        x.counter(9912).is(-1);
        x.counter(9999).is(-1);
        x.counter(10000).is(-1);
        x.counter(MAX).is(-1);
        x.counter(MIN).is(-1);
        x.counter(5003).is(9911);
        x.load(1).is(0);
        x.load(2).is(5000);
    }

    static void set() {
        Due.stands("BEAT (what 0), DAMP (1), DELAY (2), NOISE (3), the wall (4) become v: what it was. BAD.", 7);
        Asked x = new Asked();
        int[] first = {310, 100, 0, 0, 9999};
        x.set(-1, 100).is(-1);
        x.set(5, 100).is(-1);
        x.set(MIN, 100).is(-1);
        x.set(MAX, 100).is(-1);
        for (int what = 0; what <= 4; what++) x.set(what, what == 2 ? 9 : 100 - 50 * (what / 3)).is(first[what]);
        for (int what = 0; what <= 4; what++) x.set(what, first[what]).is(what == 2 ? 9 : 100 - 50 * (what / 3));
        for (int what = 0; what <= 4; what++) x.set(what, MIN).is(-1);
        for (int what = 0; what <= 4; what++) x.set(what, MAX).is(-1);
    }

    static void beat() {
        Due.stands("BEAT (100 .. 900; 310 at first)", 7);
        Asked x = new Asked();
        x.set(0, 99).is(-1);
        x.set(0, 100).is(310);
        x.set(0, 900).is(100);
        x.set(0, 901).is(-1);
        x.set(0, 310).is(900);
    }

    static void damp() {
        Due.stands("DAMP (1 .. 9999; 100 at first).", 7);
        Asked x = new Asked();
        x.set(1, 0).is(-1);
        x.set(1, 1).is(100);
        x.set(1, 9999).is(1);
        x.set(1, 10000).is(-1);
        x.set(1, 100).is(9999);
    }

    static void floors() {
        Due.stands("FLOORS 0 .. 3, as they come:", 8, 36);
        Asked x = new Asked();
        for (int i = 0; i < 4; i++) {
            x.count(1).is(i);
            x.may(i, 100).is(-1);
            x.floor(100 * (i + 1), 909).is(i);
        }
        x.floor(500, 909).is(-3);
        x.count(1).is(4);
        // to 100 with BEAT 310 and DAMP 100: 961 less 100, and 100, is 961: (GRIP and 1) 961 less 1 by 100
        for (int i = 0; i < 4; i++) x.may(i, 100).is(((100 * (i + 1) + 1) * 961 - 1) / 100);
        x.may(4, 100).is(-1);
    }

    static void grip() {
        Due.stands("GRIP (1 .. 999)", 8);
        Asked x = new Asked();
        x.floor(0, 909).is(-1);
        x.floor(1, 909).is(0);
        x.floor(999, 909).is(1);
        x.floor(1000, 909).is(-1);
        x.floor(-1, 909).is(-1);
        x.floor(MIN, 909).is(-1);
        x.floor(MAX, 909).is(-1);
        x.count(1).is(2);
    }

    /** How far a hop goes by the slope alone: SHAKE 2 is 1 above GRIP 1, and C and S of ANGLE 1 by 1000 are 0. */
    static void hopBySlope(int xy, int x, int y) {
        Asked a = new Asked().lump(200, 10).floor(1, xy);
        a.set(0, 100);
        a.law("100");
        a.run(0, 100001, 0, 0);
        a.led(0, 2).is(2);
        a.led(0, 3).is(x);
        a.led(0, 4).is(y);
    }

    static void slope() {
        Due.stands("SLOPE dx, dy (-9 .. 9).", 8);
        Asked x = new Asked();
        int[] bad = {-100, -1, 19, 99, 1819, 1900, 1909, MIN, MAX};
        for (int b : bad) x.floor(1, b).is(-1);
        x.floor(1, 0).is(0);
        x.floor(1, 18).is(1);
        x.floor(1, 1800).is(2);
        x.floor(1, 1818).is(3);
    }

    static void floor() {
        Due.stands("A FLOOR: its number. xy: 100 times (dx and 9), and dy and 9.", 8);
        hopBySlope(909, 0, 0);
        hopBySlope(0, -9, -9);
        hopBySlope(18, -9, 9);
        hopBySlope(1800, 9, -9);
        hopBySlope(1818, 9, 9);
        hopBySlope(1008, 1, -1);
        new Asked().floor(1, 909).is(0);
    }

    static void load() {
        Due.stands("The load as it lies: LOPSIDED (what 0), X (1), Y (2), SIDE (3), WET of all (4). VOID: BAD.", 9);
        Asked x = new Asked().lump(1020, 10).lump(103, 10);
        int[] due = {35, 2598 + 346, 1500 + 200, 1, 23};
        for (int what = 0; what <= 4; what++) x.load(what).is(due[what]);
        int[] bad = {-1, 5, MIN, MAX};
        for (int b : bad) x.load(b).is(-2000000000);
        x.mend(0, 1, 0);
        x.load(4).is(3);
    }

    static void shakeAtPace() {
        Due.stands("SHAKE at a PACE (0 .. 1200). BAD.", 10);
        Asked x = new Asked().lump(5050, 0);
        x.shake(-1).is(-1);
        x.shake(0).is(0);
        // 100 * 14400 by (14400 less 961, and 100)
        x.shake(1200).is(106);
        x.shake(1201).is(-1);
        x.shake(MIN).is(-1);
        x.shake(MAX).is(-1);
    }

    static void paceAndBeatCut() {
        Due.stands("SHAKE at a PACE v: with u = v / 10 and b = BEAT / 10 (both cut):", 10);
        Asked x = new Asked().lump(5050, 0);
        // 100 * 900 by (61 and 100); 100 * 961 by 100
        x.shake(309).is(559);
        x.shake(310).is(961);
        x.shake(319).is(961);
        x.shake(320).is(628);
        x.set(0, 309);
        x.shake(310).is(596);
        x.set(0, 319);
        x.shake(310).is(961);
        x.set(0, 320);
        x.shake(310).is(589);
        x.set(0, 100);
        x.set(1, 1);
        x.shake(9).is(0);
        x.shake(10).is(1);
    }

    static void stiffness() {
        Due.stands("LOPSIDED u u by (the size of (u u less b b), and DAMP)", 10);
        Asked x = new Asked().lump(5050, 0);
        x.shake(300).is(100 * 900 / (961 - 900 + 100));
        x.shake(310).is(100 * 961 / 100);
        x.shake(320).is(100 * 1024 / (1024 - 961 + 100));
        x.set(1, 101);
        x.shake(310).is(951);
        x.mend(0, 1, 49);
        x.shake(310).is(941);
    }

    static void shakeCut() {
        Due.stands(", cut (by longs)", 10);
        Asked x = new Asked().lump(100, 0);
        x.set(0, 100);
        x.set(1, 100);
        x.shake(100).is(1);
        x.set(1, 101);
        x.shake(100).is(0);
        x.set(1, 51);
        x.shake(100).is(1);
        x.set(1, 50);
        x.shake(100).is(2);
        Asked most = new Asked();
        for (int i = 0; i < 12; i++) most.lump(5099, 0);
        most.counter(9900);
        // 1887 * 14400 by (14400 less 8100, and 1)
        most.set(0, 900);
        most.set(1, 1);
        most.load(0).is(1887);
        most.shake(1200).is(4312);
    }

    static void shakeAtMost() {
        Due.stands("99999 at most.", 10);
        Asked x = new Asked().lump(5021, 0);
        x.set(0, 650);
        x.set(1, 3);
        x.shake(650).is(99991);
        x.set(1, 2);
        x.shake(650).is(99999);
        Asked just = new Asked().lump(4000, 0);
        just.set(0, 500);
        just.set(1, 1);
        just.shake(500).is(99999);
        just.mend(0, 0, 39);
        just.shake(500).is(97500);
    }
}
