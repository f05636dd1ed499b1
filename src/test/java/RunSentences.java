/** Sentences of Terms 2 (runs), and of promises 14 to 16: each method stands for one of them. */
final class RunSentences {
    private static final int MIN = Integer.MIN_VALUE, MAX = Integer.MAX_VALUE, VOID = -2000000000;

    private RunSentences() {
    }

    static void all() {
        goal();
        ticks();
        fromPaceAndSpot();
        eachTick();
        delay();
        noise();
        draws();
        ruleIsTold();
        tumblesBelow60();
        tumblesInOrder();
        tumbledAnew();
        waterIsTold();
        knockIsCounted();
        knocks();
        hopsAboveGrip();
        spotByHop();
        spotIsHeld();
        keptOfEachTick();
        inDeed();
        inThought();
        done();
        left();
        walked();
        far();
        stopped();
        run();
        paceInTheLastTick();
        theLatest();
        led();
        ledOfNone();
        did();
        didOfNone();
    }

    static int drawn(int z) {
        return z * 1103515245 + 12345;
    }

    /** The first SEED of which the first draw leaves this. */
    static int seedOf(int modulus, int rest) {
        int seed = 0;
        while ((drawn(seed) >>> 8) % modulus != rest) seed++;
        return seed;
    }

    /** DRY 50 and WET 50 at ANGLE 0, LOPSIDED 100, on a flat floor of GRIP 1, with rules. */
    static Asked heavy(String... rules) {
        Asked x = new Asked().lump(5050, 0);
        x.floor(1, 909);
        for (String r : rules) x.law(r);
        return x;
    }

    static void goal() {
        Due.stands("A RUN by a RULE on a FLOOR to a GOAL (100 .. 1200)", 14, 18, 21, 22, 23);
        Asked x = heavy("100");
        int[] bad = {99, 1201, 0, -1};
        for (int g : bad) {
            x.run(0, 1000 * g + 1, 0, 0).is(-1);
            x.loads(0, 1000 * g + 1, 0, 0).is(-1);
            x.may(0, g).is(-1);
            x.best(0, g, 0).is(-1);
            x.never(0, g, 0).is(-1);
        }
        x.run(0, 100001, 0, 0).is(100);
        x.run(0, 1200001, 0, 0).is(100);
        x.loads(0, 100001, 0, 0).is(1);
        x.loads(0, 1200001, 0, 0).is(0);
        x.may(0, 100).is(19);
        x.may(0, 1200).is(0);
        x.best(0, 100, 0).is(0);
        x.best(0, 1200, 0).is(0);
        x.never(0, 100, 0).is(1);
        x.never(0, 1200, 0).is(1);
        Asked y = heavy("1200", "1199", "100", "99");
        int[][] doneAtRule = {{1200, 0, 1}, {800, 1, -1}, {800, 0, -1}, {100, 2, 3}};
        for (int[] d : doneAtRule) {
            y.run(10 * d[1], 1000 * d[0] + 199, 0, 0);
            y.did(0).is(0);
            if (d[2] < 0) continue;
            y.run(10 * d[2], 1000 * d[0] + 199, 0, 0);
            y.did(0).is(-2);
        }
    }

    static void ticks() {
        Due.stands("through n TICKS (1 .. 200)", 14);
        Asked x = heavy("t");
        x.run(0, 100000, 0, 0).is(-1);
        x.run(0, 100201, 0, 0).is(-1);
        x.run(0, 100999, 0, 0).is(-1);
        x.led(-1, 0).is(VOID);
        x.run(0, 100001, 0, 0).is(0);
        x.led(-1, 0).is(1);
        x.run(0, 100200, 0, 0).is(199);
        x.led(-1, 0).is(200);
        x.led(199, 0).is(199);
        x.led(200, 0).is(VOID);
    }

    static void fromPaceAndSpot() {
        Due.stands("by a SEED, from PACE 0, at the spot 0, 0:", 14);
        Asked x = heavy("p+100", "t?0;60");
        x.floor(1, 1008);
        x.set(0, 100);
        x.set(1, 100);
        int[] seeds = {MIN, -1, 0, 1, MAX};
        for (int seed : seeds) {
            x.run(1, 100003, seed, 0).is(300);
            x.led(0, 0).is(100);
            // SHAKE 100 at its BEAT: 99 above GRIP, and the slope
            x.led(0, 3).is(100);
            x.led(0, 4).is(-1);
        }
        x.floor(999, 909);
        x.run(12, 100002, 0, 0).is(0);
        x.led(0, 3).is(0);
        x.led(1, 4).is(0);
    }

    static void eachTick() {
        Due.stands("each TICK t (0 on):", 14);
        Asked x = heavy("100+t");
        x.run(0, 100003, 0, 0).is(102);
        for (int t = 0; t < 3; t++) x.led(t, 0).is(100 + t);
        x.water(1);
        x.law("(t=0)+(t=1)*9");
        x.water(1).is(-1);
        x.run(0, 100001, 0, 0);
        x.did(1).is(49);
        x.run(0, 100002, 0, 0);
        x.did(1).is(40);
    }

    static void delay() {
        Due.stands("1. it SEES d: LOPSIDED as it was DELAY (0 .. 9, told; 0 at first) TICKS ahead (in the first ones as at the beginning)",
            7, 14);
        Asked x = heavy("d*6", "1");
        x.water(1);
        x.set(2, -1).is(-1);
        x.set(2, 10).is(-1);
        int[] delays = {0, 1, 8, 9};
        for (int i = 0; i < 4; i++) {
            if (i > 0) x.set(2, delays[i]).is(delays[i - 1]);
            x.run(0, 100013, 5, 0);
            for (int t = 0; t < 13; t++) x.led(t, 0).is(6 * (100 - Math.max(0, t - delays[i])));
        }
        x.set(2, 0).is(9);
    }

    static void noise() {
        Due.stands(", more by (z >>> 8) % (2 NOISE and 1) less NOISE (0 .. 50, told; 0 at first),", 7, 14);
        Asked x = heavy("d*6");
        x.set(3, -1).is(-1);
        x.set(3, 51).is(-1);
        for (int seed = 0; seed < 9; seed++) x.run(0, 100001, seed, 0).is(600);
        x.set(3, 1).is(0);
        for (int rest = 0; rest < 3; rest++) x.run(0, 100001, seedOf(3, rest), 0).is(6 * (99 + rest));
        x.set(3, 50).is(1);
        int[] rests = {0, 1, 50, 99, 100};
        for (int rest : rests) x.run(0, 100001, seedOf(101, rest), 0).is(6 * (50 + rest));
        int below = 0;
        while (drawn(below) >= 0 || drawn(below) % 256 == 0) below++;
        x.run(0, 100001, below, 0).is(6 * (50 + (drawn(below) >>> 8) % 101));
        // d may be below 0
        Asked empty = new Asked();
        empty.floor(1, 909);
        empty.law("100-d");
        empty.set(3, 50);
        empty.run(0, 100001, seedOf(101, 0), 0).is(150);
        empty.run(0, 100001, seedOf(101, 100), 0).is(50);
    }

    static void draws() {
        Due.stands("z = z * 1103515245 + 12345 (an int; SEED at first) each TICK.", 14);
        int[] seeds = {MIN, MIN + 1, -1, 0, 1, MAX};
        for (int seed : seeds) {
            Asked x = new Asked();
            x.floor(1, 909);
            x.law("600+d");
            x.set(3, 50);
            x.run(0, 100005, seed, 0);
            int z = seed;
            for (int t = 0; t < 5; t++) {
                z = drawn(z);
                x.led(t, 0).is(550 + (z >>> 8) % 101);
            }
            // without NOISE, too: the LUMP's ANGLE comes of the next draw
            Asked y = heavy("0");
            y.run(0, 100002, seed, 1);
            y.of(0, 2).is((drawn(drawn(drawn(drawn(seed)))) >>> 8) % 12);
        }
    }

    static void ruleIsTold() {
        Due.stands("2. PACE becomes what the RULE gives (p PACE as it was, t the TICK, d, g, s, c as they are; w, h, l 0).", 14);
        Asked x = new Asked().lump(5050, 9);
        x.floor(1, 909);
        x.law("w+h+l+77");
        x.law("p+t+60");
        x.law("g+d-s-c");
        x.run(0, 300002, 0, 0).is(77);
        x.run(10, 300003, 0, 0).is(60 + 61 + 62);
        x.run(20, 300001, 0, 0).is(400);
        x.law("t=0?0;t=1?100;s*10+c+200");
        x.run(30, 300004, 0, 0).is(200 + 20 + 1);
        x.led(2, 0).is(200 + 10 + 1);
    }

    static void tumblesBelow60() {
        Due.stands("3. Below 60 it TUMBLES:", 14);
        int[] paces = {0, 59, 60, 61, 1200};
        for (int pace : paces) {
            Asked x = heavy("" + pace, "1");
            x.water(1);
            // not at ANGLE 0 then
            int seed = 0;
            while ((drawn(drawn(seed)) >>> 8) % 12 == 0) seed++;
            x.run(0, 100001, seed, 1).is(pace);
            x.of(0, 2).is(pace < 60 ? (drawn(drawn(seed)) >>> 8) % 12 : 0);
            x.of(0, 1).is(pace < 60 ? 50 : 49);
            x.led(-1, 3).is(pace < 60 ? 1 : 0);
        }
    }

    static void tumblesInOrder() {
        Due.stands("each LUMP in order: z again: its ANGLE becomes (z >>> 8) % 12;", 14);
        boolean[] came = new boolean[12];
        for (int seed = -20; seed < 20; seed++) {
            Asked x = new Asked().lump(100, 0).lump(200, 30).lump(300, 60);
            x.floor(999, 909);
            x.law("0");
            x.run(0, 100001, seed, 1);
            int z = drawn(seed);
            for (int i = 0; i < 3; i++) {
                z = drawn(z);
                x.of(i, 2).is((z >>> 8) % 12);
                came[(z >>> 8) % 12] = true;
            }
        }
        Due.holds("ANGLES 0 and 11 are among them", came[0] && came[11]);
    }

    static void tumbledAnew() {
        Due.stands("it TUMBLED anew is one more, if it did not TUMBLE in the TICK ahead.", 14, 15);
        String[] rules = {"60", "0", "t<2?60;0", "t%2*60", "t%3?0;60", "t<1?0;t<3?60;0"};
        int[][] due = {{0, 0, 0, 0, 0}, {1, 1, 1, 1, 1}, {0, 0, 1, 1, 1}, {1, 1, 2, 2, 3}, {0, 1, 1, 1, 2}, {1, 1, 1, 2, 2}};
        for (int i = 0; i < rules.length; i++) {
            Asked x = heavy(rules[i]);
            for (int n = 1; n <= 5; n++) {
                x.run(0, 100000 + n, 0, 0);
                x.led(-1, 3).is(due[i][n - 1]);
            }
        }
        Asked empty = new Asked();
        empty.floor(1, 909);
        empty.law("0");
        empty.run(0, 100001, 0, 0);
        empty.led(-1, 3).is(1);
    }

    static void waterIsTold() {
        Due.stands("Else each LUMP's WET is less by THE WATER's law (w, h, p PACE now, t, l LOPSIDED ahead of this, s, c; d, g 0).", 14);
        Asked x = new Asked().lump(2525, 3).lump(2525, 4);
        x.floor(999, 909);
        x.law("t?600;0");
        x.law("600");
        x.law("l-90");
        x.water(2);
        // 10 of each: LOPSIDED is 100 for the second, too, then 80
        x.run(10, 100002, 0, 1);
        x.of(0, 1).is(15);
        x.of(1, 1).is(15);
        x.law("(w=15)*(h+p/100)+(w=3)");
        x.water(3);
        x.run(10, 100001, 0, 1);
        x.of(0, 1).is(15 - 9);
        x.of(1, 1).is(15 - 10);
        Asked y = heavy("t<2?0;600", "10*t+3*s+c", "9+d+g");
        y.water(1);
        y.run(0, 100003, 0, 0);
        y.did(1).is(50 - 21);
        y.run(0, 100004, 0, 0);
        y.did(1).is(0);
        y.water(2);
        y.run(0, 700003, 0, 0);
        y.did(1).is(41);
        y.run(0, 700002, 0, 0);
        y.did(1).is(50);
    }

    static void knockIsCounted() {
        Due.stands("4. SHAKE at PACE now: if it KNOCKS, a knock is counted.", 14, 15);
        Asked x = heavy("t%2*250+60", "0");
        x.water(1);
        x.run(0, 100005, 0, 0);
        int[] shakes = {3, 961, 3, 961, 3};
        for (int t = 0; t < 5; t++) x.led(t, 2).is(shakes[t]);
        x.led(-1, 1).is(2);
        // from none on in each RUN
        x.run(0, 100004, 0, 0);
        x.led(-1, 1).is(2);
        x.run(0, 100001, 0, 0);
        x.led(-1, 1).is(0);
    }

    static void knocks() {
        Due.stands("KNOCKS: SHAKE above 500.", 14, 15);
        Asked x = heavy("310", "0");
        x.water(1);
        x.set(1, 192);
        x.run(0, 100003, 0, 0);
        x.led(0, 2).is(500);
        x.led(-1, 1).is(0);
        x.set(1, 115);
        x.mend(0, 1, 10);
        x.run(0, 100003, 0, 0);
        x.led(0, 2).is(501);
        x.led(-1, 1).is(3);
    }

    static void hopsAboveGrip() {
        Due.stands("If SHAKE is above GRIP: it HOPS:", 14, 15);
        Asked x = heavy("310", "0");
        x.water(1);
        x.floor(961, 1010);
        x.floor(960, 1010);
        x.floor(962, 1010);
        int[] hops = {3, 0, 3, 0};
        int[] at = {3 * 960, 0, 3 * 2, 0};
        for (int f = 0; f < 4; f++) {
            x.run(f, 100003, 0, 0);
            x.led(0, 2).is(961);
            x.led(-1, 2).is(hops[f]);
            x.led(2, 3).is(at[f]);
            x.led(2, 4).is(f == 2 ? 3 : 0);
            // it KNOCKS whether it HOPS or not
            x.led(-1, 1).is(3);
        }
    }

    static void spotByHop() {
        Due.stands("the spot goes by C (x), S (y) of SIDE times (SHAKE less GRIP) by 1000 (cut), and by SLOPE;", 14, 15);
        // LOPSIDED 105 and, at its BEAT, SHAKE 105: 28 above GRIP 77
        int[] c = {1000, 866, 500, 0, -500, -866, -1000, -866, -500, 0, 500, 866};
        int[] cut = {27, 23, 13, 0, -13, -23, -27, -23, -13, 0, 13, 23};
        for (int a = 0; a < 12; a++) {
            int lopsided = a % 3 == 0 ? 100 : 105;
            Asked x = new Asked().lump(5050, 10 * a);
            x.floor(lopsided - 27, 909);
            x.floor(lopsided - 27, 1107);
            x.law("100");
            x.set(0, 100);
            x.run(0, 100002, 0, 0);
            x.led(0, 2).is(lopsided);
            for (int t = 0; t < 2; t++) {
                x.led(t, 3).is((t + 1) * cut[a]);
                x.led(t, 4).is((t + 1) * cut[(a + 9) % 12]);
            }
            x.run(1, 100001, 0, 0);
            x.led(0, 3).is(cut[a] + 2);
            x.led(0, 4).is(cut[(a + 9) % 12] - 2);
            Due.due("27 of C " + a, 27 * c[a] / 1000, cut[a]);
        }
    }

    static void spotIsHeld() {
        Due.stands("held within -9999 .. 9999.", 14, 15);
        // SHAKE 10000: 9999 above GRIP 1, and by the slope one more or one less
        int[][] outward = {{0, 1, 0}, {3, 0, 1}, {6, -1, 0}, {9, 0, -1}};
        for (int[] o : outward) {
            Asked x = new Asked().lump(5050, 10 * o[0]);
            x.set(0, 100);
            x.set(1, 1);
            x.law("100");
            for (int by = -1; by <= 1; by++) x.floor(1, 100 * (9 + by * o[1]) + 9 + by * o[2]);
            for (int by = -1; by <= 1; by++) {
                x.run(by + 1, 100001, 0, 0);
                x.led(0, 2).is(10000);
                x.led(0, 3).is(o[1] * Math.min(9999, 9999 + by));
                x.led(0, 4).is(o[2] * Math.min(9999, 9999 + by));
            }
            x.run(1, 100003, 0, 0);
            x.led(2, 3).is(o[1] * 9999);
            x.led(2, 4).is(o[2] * 9999);
        }
    }

    static void keptOfEachTick() {
        Due.stands("Kept of each TICK: PACE, LOPSIDED, SHAKE, the spot (x, y).", 14, 15);
        Asked x = heavy("100+t", "10");
        x.floor(75, 1010);
        x.set(0, 100);
        x.water(1);
        x.run(1, 100003, 0, 0);
        // 15 above GRIP, then 5, then none; a hop goes by 1, 1 of the slope
        int[][] due = {{100, 90, 90, 16, 1}, {101, 80, 80, 22, 2}, {102, 70, 70, 22, 2}};
        for (int t = 0; t < 3; t++) {
            for (int what = 0; what < 5; what++) x.led(t, what).is(due[t][what]);
        }
    }

    static void inDeed() {
        Due.stands("In deed: LUMPS lie as they do behind it;", 14);
        Asked x = heavy("600", "0");
        x.run(0, 100001, 0, 1);
        x.of(0, 1).is(45);
        x.of(0, 2).is(0);
        x.load(0).is(95);
        int seed = 0;
        while ((drawn(drawn(seed)) >>> 8) % 12 != 7) seed++;
        x.run(10, 100001, seed, 1);
        x.of(0, 0).is(50);
        x.of(0, 1).is(45);
        x.of(0, 2).is(7);
        x.of(0, 3).is(0);
        x.count(0).is(1);
        x.load(3).is(7);
        x.run(10, 100001, 0, 2).is(-1);
        x.run(10, 100001, 0, -1).is(-1);
        x.of(0, 2).is(7);
    }

    static void inThought() {
        Due.stands("in thought all is as before.", 14);
        Asked x = heavy("t%2*600");
        x.mend(0, 0, 40);
        x.mend(0, 0, 50);
        x.undo().is(1);
        x.run(0, 100200, 3, 0);
        x.did(1).is(9);
        int[] lump = {40, 50, 0, 0};
        for (int what = 0; what < 4; what++) x.of(0, what).is(lump[what]);
        x.load(0).is(90);
        x.count(4).is(1);
        x.redo().is(0);
        x.of(0, 0).is(50);
    }

    static void done() {
        Due.stands("DONE: the first TICK with PACE at GOAL or more;", 14, 16);
        Asked x = heavy("299+t", "t%2*300", "t<2?400;100");
        x.run(0, 300001, 0, 0);
        x.did(0).is(-2);
        x.run(0, 299001, 0, 0);
        x.did(0).is(0);
        x.run(0, 298001, 0, 0);
        x.did(0).is(0);
        x.run(0, 300002, 0, 0);
        x.did(0).is(1);
        x.run(0, 300009, 0, 0);
        x.did(0).is(1);
        x.run(10, 300009, 0, 0);
        x.did(0).is(1);
        x.run(20, 300009, 0, 0);
        x.did(0).is(0);
        x.run(0, 498200, 0, 0);
        x.did(0).is(199);
        x.run(0, 499200, 0, 0);
        x.did(0).is(-2);
    }

    static void left() {
        Due.stands("LEFT: WET of all behind it;", 14, 16);
        Asked x = heavy("600", "w");
        x.lump(130, 60);
        x.run(0, 100001, 0, 0);
        x.did(1).is(45 + 27);
        x.load(4).is(80);
        x.run(0, 100002, 0, 0);
        x.did(1).is(41 + 25);
        x.water(1);
        x.run(0, 100001, 0, 0);
        x.did(1).is(0);
        x.run(0, 100200, 0, 0);
        x.did(1).is(0);
    }

    /** On a slope by xy it hops by 15 at first, by 5 then and not again; SHAKE is LOPSIDED. */
    static Asked thereAndBack(int angle, int xy) {
        Asked x = new Asked().lump(5050, 10 * angle);
        x.floor(75, xy);
        x.law("100");
        x.law("10");
        x.water(1);
        x.set(0, 100);
        return x;
    }

    static void walked() {
        Due.stands("WALKED: sizes of both of the spot together behind it;", 14, 16);
        int[][] due = {{0, 0, 6 + 9, 2 + 18}, {0, 1818, 24 + 9, 38 + 18}, {6, 1800, 6 + 9, 2 + 18}, {6, 18, 24 + 9, 38 + 18},
            {3, 9, 15 + 9, 20 + 18}, {9, 918, 6, 2}};
        for (int[] d : due) {
            Asked x = thereAndBack(d[0], d[1]);
            x.run(0, 100001, 0, 0);
            x.did(2).is(d[2]);
            x.run(0, 100002, 0, 0);
            x.did(2).is(d[3]);
            x.run(0, 100005, 0, 0);
            x.did(2).is(d[3]);
        }
        Asked none = heavy("0");
        none.run(0, 100001, 0, 0);
        none.did(2).is(0);
    }

    static void far() {
        Due.stands("FAR: the greatest such of all TICKS;", 14, 16);
        Asked x = thereAndBack(0, 9);
        x.run(0, 100001, 0, 0);
        x.did(3).is(6);
        x.run(0, 100002, 0, 0);
        x.did(2).is(2);
        x.did(3).is(6);
        Asked y = thereAndBack(6, 1800);
        y.run(0, 100001, 0, 0);
        y.did(3).is(15);
        y.run(0, 100002, 0, 0);
        y.did(3).is(20);
        Asked none = heavy("0");
        none.run(0, 100001, 0, 0);
        none.did(3).is(0);
    }

    static void stopped() {
        Due.stands("STOPPED: whether a wall (W, told, 1 .. 9999; 9999 at first) was passed: FAR above W.", 7, 14, 16);
        Asked x = thereAndBack(0, 9);
        x.set(4, 0).is(-1);
        x.set(4, 10000).is(-1);
        x.set(4, 1).is(9999);
        x.set(4, 9999).is(1);
        x.run(0, 100002, 0, 0);
        x.did(4).is(0);
        int[] walls = {1, 5, 6, 7};
        for (int w : walls) {
            x.set(4, w);
            x.run(0, 100002, 0, 0);
            x.did(4).is(w < 6 ? 1 : 0);
        }
        // 9999 at first: 9999 and no more, then 1 aside, too
        for (int dy = 0; dy <= 1; dy++) {
            Asked y = heavy("100");
            y.set(0, 100);
            y.set(1, 1);
            y.floor(1, 909 + dy);
            y.run(1, 100001, 0, 0);
            y.did(3).is(9999 + dy);
            y.did(4).is(dy);
        }
    }

    static void run() {
        Due.stands("A RUN (rf: 10 times the RULE, and the FLOOR; gn: 1000 times the GOAL, and n; in deed 1, 0):", 14);
        Asked x = heavy("101", "102");
        x.floor(999, 909);
        x.set(0, 100);
        int[] bad = {-1, -10, 2, 3, 9, 20, 21, 40, MIN, MAX};
        for (int rf : bad) x.run(rf, 100001, 0, 0).is(-1);
        int[] wrong = {-1, -100001, 0, 1, MIN, MAX};
        for (int gn : wrong) x.run(0, gn, 0, 0).is(-1);
        int[] neither = {-1, 2, MIN, MAX};
        for (int deed : neither) x.run(0, 100001, 0, deed).is(-1);
        x.led(-1, 0).is(VOID);
        int[] pairs = {0, 1, 10, 11};
        for (int rf : pairs) {
            x.run(rf, 102002, 0, 0).is(101 + rf / 10);
            x.led(-1, 0).is(2);
            x.led(-1, 2).is(rf % 10 == 0 ? 2 : 0);
            x.did(0).is(rf / 10 == 0 ? -2 : 0);
        }
        x.run(0, 100001, 0, 1).is(101);
    }

    static void paceInTheLastTick() {
        Due.stands("PACE in the last TICK. BAD.", 14);
        Asked x = heavy("100+t");
        x.run(0, 100001, 0, 0).is(100);
        x.run(0, 100002, 0, 0).is(101);
        x.run(0, 100200, 0, 0).is(299);
        x.run(1, 100200, 0, 0).is(-1);
        x.run(10, 100200, 0, 0).is(-1);
    }

    static void theLatest() {
        Due.stands("It is the latest RUN.", 14, 15, 16);
        Asked x = heavy("600", "700");
        x.run(0, 700005, 0, 0);
        x.run(10, 700002, 0, 0);
        x.led(-1, 0).is(2);
        x.led(0, 0).is(700);
        x.led(2, 0).is(VOID);
        x.led(-1, 2).is(2);
        x.did(0).is(0);
        x.run(10, 700002, 0, 2).is(-1);
        x.run(2, 700003, 0, 0).is(-1);
        x.led(-1, 0).is(2);
        x.mend(0, 1, 0);
        x.set(4, 1);
        x.did(1).is(40);
        x.did(4).is(0);
        x.run(0, 700001, 0, 1);
        x.led(-1, 0).is(1);
        x.did(0).is(-2);
        x.did(1).is(0);
        x.did(4).is(1);
    }

    static void led() {
        Due.stands("The latest RUN: of TICK t PACE (what 0), LOPSIDED (1), SHAKE (2), x (3), y (4); t -1: 0 how many TICKS, 1 knocks, 2 hops, 3 how often it tumbled anew.", 15);
        Asked x = heavy("t<2?310;0", "0");
        x.floor(1, 1007);
        x.water(1);
        x.run(1, 100004, 0, 0);
        int[] first = {310, 100, 961, 961, -2};
        for (int what = 0; what < 5; what++) x.led(0, what).is(first[what]);
        x.led(1, 3).is(1922);
        x.led(3, 0).is(0);
        x.led(3, 3).is(1922);
        x.led(4, 0).is(VOID);
        x.led(-2, 0).is(VOID);
        x.led(0, -1).is(VOID);
        x.led(0, 5).is(VOID);
        int[] all = {4, 2, 2, 1};
        for (int what = 0; what < 4; what++) x.led(-1, what).is(all[what]);
        x.led(-1, -1).is(VOID);
        x.led(-1, 4).is(VOID);
    }

    static void ledOfNone() {
        Due.stands("VOID: BAD, or there is none.", 15);
        Asked x = heavy("600");
        for (int what = -1; what <= 5; what++) {
            x.led(-1, what).is(VOID);
            x.led(0, what).is(VOID);
        }
        x.loads(0, 600003, 0, 0).is(3);
        x.run(0, 600000, 0, 0).is(-1);
        x.led(0, 0).is(VOID);
        x.run(0, 600001, 0, 0);
        x.led(0, 0).is(600);
        int[] bad = {MIN, MAX, -2, 1, 200};
        for (int t : bad) x.led(t, 0).is(VOID);
        x.led(0, MIN).is(VOID);
        x.led(0, MAX).is(VOID);
        x.led(-1, MIN).is(VOID);
        x.led(-1, MAX).is(VOID);
    }

    static void did() {
        Due.stands("DONE (what 0; NOT), LEFT (1), WALKED (2), FAR (3), STOPPED (4: 1, 0) of the latest RUN.", 16);
        Asked x = thereAndBack(0, 9);
        x.set(4, 5);
        x.run(0, 100002, 0, 0);
        int[] due = {0, 30, 2, 6, 1};
        for (int what = 0; what < 5; what++) x.did(what).is(due[what]);
        x.run(0, 101002, 0, 0);
        x.did(0).is(-2);
        x.set(4, 6);
        x.run(0, 101002, 0, 0);
        x.did(4).is(0);
    }

    static void didOfNone() {
        Due.stands("VOID: BAD, or there is none.", 16);
        Asked x = heavy("600");
        for (int what = -1; what <= 5; what++) x.did(what).is(VOID);
        x.best(0, 600, 0).is(0);
        x.run(0, 600201, 0, 0).is(-1);
        x.did(1).is(VOID);
        x.run(0, 600001, 0, 0);
        x.did(1).is(45);
        int[] bad = {-1, 5, MIN, MAX};
        for (int what : bad) x.did(what).is(VOID);
    }
}
