/** Promises 14 to 16: runs, and what is kept of the latest. */
final class RunsTest {
    public static void main(String[] args) {
        refused();
        steadyPace();
        deedAndThought();
        tumbles();
        whatRulesAreTold();
        delay();
        noise();
        knocksAndHops();
        farAndWalls();
        waterLaws();
        keptOfTheLatest();
        Due.end();
    }

    /** DRY 50, WET 50 at ANGLE 0, a flat floor of GRIP 1. */
    static MachineWalks heavy(String rule) {
        MachineWalks x = new MachineWalks();
        x.lump(5050, 0);
        x.floor(1, 909);
        Due.law(x, rule);
        return x;
    }

    static void led(MachineWalks x, String call, int what, int... due) {
        for (int t = 0; t < due.length; t++) Due.due(call + ", led(" + t + ", " + what + ")", x.led(t, what), due[t]);
    }

    static void refused() {
        MachineWalks x = heavy("600");
        int[][] bad = {{10, 600001, 0}, {1, 600001, 0}, {-1, 600001, 0}, {-10, 600001, 0}, {40, 600001, 0}, {4, 600001, 0},
            {0, 99001, 0}, {0, 1201001, 0}, {0, 600000, 0}, {0, 600201, 0}, {0, 600999, 0}, {0, -600001, 0}, {0, 600001, 2},
            {0, 600001, -1}, {0, 0, 0}, {Integer.MIN_VALUE, 600001, 0}, {Integer.MAX_VALUE, 600001, 0},
            {0, Integer.MIN_VALUE, 0}, {0, Integer.MAX_VALUE, 0}, {0, 600001, Integer.MAX_VALUE}};
        for (int[] b : bad) Due.due("run(" + b[0] + ", " + b[1] + ", 0, " + b[2] + ")", x.run(b[0], b[1], 0, b[2]), -1);
        Due.due("no run has been", x.led(-1, 0), MachineWalks.VOID);
        x.run(0, 600003, 0, 0);
        for (int[] b : bad) x.run(b[0], b[1], 0, b[2]);
        Due.due("the latest stays", x.led(-1, 0), 3);
        Due.due("least", x.run(0, 100001, Integer.MIN_VALUE, 0), 600);
        Due.due("most", x.run(0, 1200200, Integer.MAX_VALUE, 0), 600);
    }

    static void steadyPace() {
        MachineWalks x = heavy("600");
        Due.due("run", x.run(0, 600003, 5, 0), 600);
        led(x, "steady", 0, 600, 600, 600);
        led(x, "steady", 1, 95, 91, 87);
        led(x, "steady", 2, 124, 119, 114);
        led(x, "steady", 3, 123, 241, 354);
        led(x, "steady", 4, 0, 0, 0);
        int[] all = {3, 0, 3, 0};
        for (int k = 0; k < 4; k++) Due.due("led(-1, " + k + ")", x.led(-1, k), all[k]);
        int[] did = {0, 37, 354, 354, 0};
        for (int k = 0; k < 5; k++) Due.due("did(" + k + ")", x.did(k), did[k]);
        x.run(0, 601003, 5, 0);
        Due.due("never at GOAL", x.did(0), -2);
        MachineWalks last = heavy("0");
        for (int k = 1; k < 4; k++) {
            last.floor(200 * k, 909);
            Due.law(last, "" + 333 * k);
        }
        for (int k = 0; k < 16; k++) {
            int grip = Math.max(1, 200 * (k % 4));
            last.run(k / 4 * 10 + k % 4, 999001, 0, 0);
            Due.due("PACE by RULE " + k / 4, last.led(0, 0), 333 * (k / 4));
            Due.due("hops on FLOOR " + k % 4, last.led(-1, 2), last.led(0, 2) > grip ? 1 : 0);
            Due.due("GOAL 999", last.did(0), k / 4 == 3 ? 0 : -2);
        }
        last.run(30, 1000001, 0, 0);
        Due.due("GOAL 1000", last.did(0), -2);
        MachineWalks y = heavy("p+100");
        Due.due("p as it was", y.run(0, 300200, 5, 0), 1200);
        led(y, "p+100", 0, 100, 200, 300, 400, 500, 600, 700, 800, 900, 1000, 1100, 1200, 1200);
        Due.due("DONE", y.did(0), 2);
        y.run(0, 301004, 5, 0);
        Due.due("DONE in the last", y.did(0), 3);
    }

    static void deedAndThought() {
        MachineWalks x = heavy("600");
        x.mend(0, 0, 40);
        x.mend(0, 0, 50);
        x.undo();
        x.redo();
        x.run(0, 600003, 5, 0);
        Due.due("WET behind a thought", x.of(0, 1), 50);
        Due.due("changes behind a thought", x.count(4), 2);
        x.undo();
        Due.due("can be done again behind a thought", x.redo(), 0);
        x.undo();
        x.mend(0, 0, 50);
        x.run(0, 600003, 5, 1);
        Due.due("WET behind a deed", x.of(0, 1), 37);
        Due.due("DRY behind a deed", x.of(0, 0), 50);
        Due.due("LOPSIDED", x.load(0), 87);
        Due.due("no changes then", x.count(4), 0);
        Due.due("none to undo", x.undo(), -5);
        x.mend(0, 0, 9);
        x.undo();
        x.run(0, 600001, 5, 1);
        Due.due("none to be done again", x.redo(), -5);
        Due.due("WET behind the second", x.of(0, 1), 34);
    }

    static void tumbles() {
        MachineWalks x = heavy("0");
        x.lump(1000, 1);
        Due.due("run", x.run(0, 100001, 0, 1), 0);
        Due.due("first", x.of(0, 2), 6);
        Due.due("second", x.of(1, 2), 3);
        Due.due("HOLDS stays", x.of(1, 3), 1);
        Due.due("WET stays", x.of(0, 1), 50);
        Due.due("anew in the first TICK", x.led(-1, 3), 1);
        x.run(0, 100002, 0, 1);
        Due.due("first, two TICKS", x.of(0, 2), 6);
        Due.due("second, two TICKS", x.of(1, 2), 4);
        Due.due("anew once", x.led(-1, 3), 1);
        Due.due("TICKS", x.led(-1, 0), 2);
        x.run(0, 100001, -3, 1);
        Due.due("first, SEED -3", x.of(0, 2), 7);
        Due.due("second, SEED -3", x.of(1, 2), 5);
        MachineWalks edge = heavy("59");
        edge.mend(0, 2, 1);
        Due.due("59", edge.run(0, 100001, 0, 1), 59);
        Due.due("at 59 it tumbles", edge.of(0, 2), 6);
        MachineWalks clings = heavy("60");
        clings.mend(0, 2, 1);
        Due.due("60", clings.run(0, 100001, 0, 1), 60);
        Due.due("at 60 it clings", clings.of(0, 2), 1);
        Due.due("never anew", clings.led(-1, 3), 0);
        MachineWalks turns = heavy("t%2*60");
        turns.run(0, 100004, 0, 0);
        Due.due("anew twice", turns.led(-1, 3), 2);
        turns.run(0, 100005, 0, 0);
        Due.due("anew three times", turns.led(-1, 3), 3);
        MachineWalks empty = new MachineWalks();
        empty.floor(1, 909);
        Due.law(empty, "0");
        empty.run(0, 100005, 0, 0);
        Due.due("an empty drum tumbles, too", empty.led(-1, 3), 1);
    }

    static void whatRulesAreTold() {
        MachineWalks x = heavy("t<3?0;600+100*c+s");
        x.run(0, 100007, 0, 0);
        led(x, "s, c", 0, 0, 0, 0, 700, 701, 702, 703);
        x = heavy("t=5?0;600+100*c+s");
        x.run(0, 100008, 0, 0);
        led(x, "s, c", 0, 600, 601, 602, 603, 604, 0, 700, 701);
        x = heavy("t%2?0;600+100*c");
        x.run(0, 100008, 0, 0);
        led(x, "c", 0, 600, 0, 700, 0, 800, 0, 900, 0);
        x = heavy("g/2+t");
        x.run(0, 901003, 0, 0);
        led(x, "g, t", 0, 450, 451, 452);
        x = heavy("w+h+l+77");
        x.mend(0, 1, 50);
        x.run(0, 901003, 0, 0);
        led(x, "w, h, l", 0, 77, 77, 77);
    }

    static void delay() {
        int[][] due = {{600, 570, 546, 528}, {600, 600, 570, 546}, {600, 600, 600, 570, 546}};
        for (int delay = 0; delay < 3; delay++) {
            MachineWalks x = heavy("d*6");
            x.set(2, delay);
            x.run(0, 100006, 9, 0);
            led(x, "DELAY " + delay, 0, due[delay]);
        }
        MachineWalks x = heavy("d*6");
        x.set(2, 9);
        x.run(0, 100011, 9, 0);
        led(x, "DELAY 9", 0, 600, 600, 600, 600, 600, 600, 600, 600, 600, 600, 570);
    }

    static void noise() {
        MachineWalks x = heavy("d*6");
        x.set(3, 5);
        x.run(0, 100003, 7, 0);
        led(x, "NOISE 5", 0, 576, 582, 540);
        MachineWalks y = new MachineWalks();
        y.floor(1, 909);
        Due.law(y, "d<0?700-d;100+d");
        y.set(3, 50);
        y.run(0, 100005, 7, 0);
        led(y, "NOISE 50, below 0, too", 0, 717, 110, 709, 729, 726);
        Due.law(y, "d");
        y.run(10, 100002, 7, 0);
        led(y, "draws go on behind a tumbling of none", 0, 0, 10);
        y.lump(100, 0);
        y.set(3, 5);
        y.run(10, 100003, 7, 0);
        // draws 1, 6 for d, 4 would be the third: each LUMP that tumbles takes one between them
        led(y, "draws", 0, 0, 0, 0);
        Due.law(y, "600+d-1");
        y.counter(0);
        y.run(20, 100003, 7, 0);
        led(y, "draws while it clings", 0, 596, 601, 598);
        Due.law(y, "t?600+d;0");
        y.run(30, 100003, 7, 0);
        led(y, "draws behind a tumbling", 0, 0, 599, 600);
    }

    static void knocksAndHops() {
        MachineWalks x = heavy("310");
        x.water(Due.law(x, "0"));
        x.floor(500, 1010);
        x.floor(499, 1010);
        x.set(1, 192);
        x.run(1, 100003, 0, 0);
        led(x, "SHAKE", 2, 500, 500, 500);
        Due.due("500 is no knock", x.led(-1, 1), 0);
        Due.due("500 on 500 is no hop", x.led(-1, 2), 0);
        led(x, "no slope without a hop", 3, 0, 0, 0);
        x.run(2, 100003, 0, 0);
        Due.due("500 on 499 is a hop", x.led(-1, 2), 3);
        led(x, "hops", 3, 2, 4, 6);
        led(x, "slope", 4, 1, 2, 3);
        x.set(1, 191);
        x.run(1, 100003, 0, 0);
        Due.due("503 is a knock", x.led(-1, 1), 3);
        Due.due("503 on 500 is a hop", x.led(-1, 2), 3);
        led(x, "hops by 3", 3, 4, 8, 12);
        x.set(1, 115);
        x.mend(0, 1, 10);
        x.run(1, 100001, 0, 0);
        Due.due("60 * 961 / 115", x.led(0, 2), 501);
        Due.due("501 is a knock", x.led(-1, 1), 1);
        Due.due("501 on 500 is a hop", x.led(0, 3), 2);
        x.mend(0, 1, 50);
        x.set(1, 191);
        x.mend(0, 2, 4);
        x.run(1, 100002, 0, 0);
        // LOPSIDED (866 + 187 = 1053) / 10 = 105; 105 * 961 / 191 = 528; 28 above
        led(x, "SHAKE at ANGLE 4", 2, 528, 528);
        led(x, "hops by -500, cut", 3, -13, -26);
        led(x, "hops by 866, cut", 4, 25, 50);
    }

    static void farAndWalls() {
        MachineWalks x = heavy("310");
        x.water(Due.law(x, "0"));
        x.set(1, 1);
        int[] angles = {0, 6, 3, 9};
        for (int k = 0; k < 4; k++) {
            x.mend(0, 2, angles[k]);
            x.run(0, 100003, 0, 0);
            int sign = k % 2 == 0 ? 9999 : -9999;
            led(x, "held", 3, k < 2 ? sign : 0, k < 2 ? sign : 0);
            led(x, "held", 4, k < 2 ? 0 : sign, k < 2 ? 0 : sign);
            Due.due("WALKED", x.did(2), 9999);
            Due.due("FAR", x.did(3), 9999);
            Due.due("not above the wall", x.did(4), 0);
        }
        // there and back: 8 out, a tumbling to ANGLE 6 (SEED 15), 8 back
        MachineWalks y = heavy("t=1?0;310");
        y.water(Due.law(y, "0"));
        y.set(1, 9999);
        y.set(4, 7);
        y.run(0, 100003, 15, 0);
        led(y, "there and back", 3, 8, 8, 0);
        int[] did = {0, 50, 0, 8, 1};
        for (int k = 0; k < 5; k++) Due.due("there and back, did(" + k + ")", y.did(k), did[k]);
        Due.due("hops", y.led(-1, 2), 2);
        y.set(4, 8);
        Due.due("the wall as it was then", y.did(4), 1);
        y.run(0, 100003, 15, 0);
        Due.due("8 is not above 8", y.did(4), 0);
        Due.due("VOID", y.did(5), -2000000000);
        Due.due("VOID", y.did(-1), -2000000000);
        MachineWalks slopes = heavy("310");
        slopes.floor(1, 0);
        slopes.set(1, 9999);
        slopes.run(1, 100002, 0, 0);
        led(slopes, "x", 3, -1, -2);
        led(slopes, "y", 4, -9, -18);
        Due.due("sizes of both", slopes.did(2), 20);
        Due.due("FAR", slopes.did(3), 20);
    }

    static void waterLaws() {
        MachineWalks x = heavy("t?100;0");
        x.mend(0, 1, 99);
        x.water(Due.law(x, "c"));
        x.run(0, 100004, 0, 0);
        Due.due("c", x.did(1), 96);
        x.water(Due.law(x, "s"));
        x.run(0, 100005, 0, 0);
        Due.due("s", x.did(1), 99 - 0 - 1 - 2 - 3);
        x.water(Due.law(x, "t"));
        x.run(0, 100005, 0, 0);
        Due.due("t", x.did(1), 99 - 1 - 2 - 3 - 4);
        MachineWalks y = new MachineWalks();
        y.lump(2525, 3);
        y.lump(2525, 4);
        y.floor(1, 909);
        Due.law(y, "p+60");
        y.water(Due.law(y, "l-90"));
        y.run(0, 100001, 0, 1);
        Due.due("l ahead of this, the first", y.of(0, 1), 15);
        Due.due("l ahead of this, the second", y.of(1, 1), 15);
        y.water(Due.law(y, "p/60+h"));
        y.run(0, 100001, 0, 1);
        Due.due("p now and h", y.of(0, 1), 11);
        Due.due("p now and h", y.of(1, 1), 10);
        y.water(Due.law(y, "9+d+g"));
        y.run(0, 100001, 0, 1);
        Due.due("d and g are 0", y.of(0, 1), 2);
        y.run(0, 100001, 0, 1);
        Due.due("no less than none", y.of(0, 1), 0);
        MachineWalks none = new MachineWalks();
        none.lump(199, 0);
        none.floor(1, 909);
        Due.law(none, "1200");
        none.run(0, 100001, 0, 1);
        Due.due("WET PACE / 6000", none.of(0, 1), 80);
        none.run(0, 100001, 0, 1);
        Due.due("WET PACE / 6000", none.of(0, 1), 64);
    }

    static void keptOfTheLatest() {
        MachineWalks x = heavy("600");
        x.run(0, 600200, 0, 0);
        Due.due("the 200th", x.led(199, 0), 600);
        int[][] none = {{200, 0}, {-2, 0}, {0, 5}, {0, -1}, {-1, 4}, {-1, -1}, {Integer.MIN_VALUE, 0}, {Integer.MAX_VALUE, 0}};
        for (int[] n : none) Due.due("led(" + n[0] + ", " + n[1] + ")", x.led(n[0], n[1]), -2000000000);
        x.run(0, 600002, 0, 0);
        Due.due("the second of two", x.led(1, 0), 600);
        Due.due("no third of two", x.led(2, 0), -2000000000);
        x.loads(0, 600005, 0, 0);
        x.best(0, 600, 0);
        x.spread(3, 3, 0);
        x.beside(600, 0);
        Due.due("thoughts are not the latest", x.led(-1, 0), 2);
        Due.due("thoughts are not the latest", x.did(1), 41);
        Due.law(x, "700");
        x.run(10, 700001, 0, 0);
        Due.due("the latest", x.led(0, 0), 700);
        Due.due("DONE", x.did(0), 0);
        Due.due("begins anew", x.led(-1, 2), 1);
        x.mend(0, 1, 0);
        Due.due("LEFT as it was then", x.did(1), 45);
    }
}
