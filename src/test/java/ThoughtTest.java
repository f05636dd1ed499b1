/** Promises 17 to 26: what is asked in thought, and changes undone and done again. */
final class ThoughtTest {
    public static void main(String[] args) {
        fear();
        may();
        weight();
        spread();
        loads();
        best();
        never();
        beside();
        undoAndRedo();
        fortyChanges();
        Due.end();
    }

    static MachineWalks heavy(String... rules) {
        MachineWalks x = new MachineWalks();
        x.lump(5050, 0);
        x.floor(1, 909);
        for (String r : rules) Due.law(x, r);
        return x;
    }

    static void fear() {
        MachineWalks x = new MachineWalks();
        Due.due("of an empty drum", x.fear(0), 10);
        Due.due("of an empty drum", x.fear(1), 0);
        Due.due("fear(2)", x.fear(2), -1);
        Due.due("fear(-1)", x.fear(-1), -1);
        x.lump(5050, 0);
        Due.due("its beat", x.fear(0), 310);
        Due.due("SHAKE there", x.fear(1), 961);
        x.set(0, 405);
        Due.due("its beat", x.fear(0), 400);
        x.set(0, 900);
        Due.due("its beat", x.fear(0), 900);
        Due.due("SHAKE there", x.fear(1), 8100);
        x.set(1, 9999);
        // 100 u u / (u u - 8100 + 9999) is 88 from u 119 on; at 900 it is 81
        Due.due("much DAMP", x.fear(0), 1190);
        Due.due("much DAMP", x.fear(1), 88);
        x.set(1, 1);
        x.set(0, 890);
        x.mend(0, 1, 99);
        x.counter(5000);
        // at 890 it is held at 99999, and nowhere else
        Due.due("held", x.fear(1), 99999);
        Due.due("held", x.fear(0), 890);
        MachineWalks few = new MachineWalks();
        few.lump(200, 0);
        few.set(1, 9999);
        few.set(0, 100);
        Due.due("LOPSIDED", few.load(0), 2);
        Due.due("of like ones the least", few.fear(0), 1000);
        Due.due("of like ones the least", few.fear(1), 1);
    }

    static void may() {
        MachineWalks x = new MachineWalks();
        Due.due("no floor", x.may(0, 100), -1);
        x.floor(120, 909);
        x.floor(999, 909);
        x.floor(1, 0);
        int[][] bad = {{3, 100}, {-1, 100}, {0, 99}, {0, 1201}, {0, -1}, {Integer.MAX_VALUE, 100}, {0, Integer.MIN_VALUE}};
        for (int[] b : bad) Due.due("may(" + b[0] + ", " + b[1] + ")", x.may(b[0], b[1]), -1);
        Due.due("to 100", x.may(0, 100), 1162);
        Due.due("to 109", x.may(0, 109), 1162);
        Due.due("to 110", x.may(0, 110), 939);
        Due.due("to 310", x.may(0, 310), 12);
        Due.due("to 1200", x.may(0, 1200), 12);
        Due.due("to 100 on 999", x.may(1, 100), 9609);
        Due.due("to 300 on 1", x.may(2, 300), 0);
        x.set(1, 9999);
        Due.due("9999 at most", x.may(1, 100), 9999);
        Due.due("with more DAMP to 1200", x.may(0, 1200), 121 * 23438 / 14400);
        x.lump(5099, 0);
        Due.due("whatever the load", x.may(1, 100), 9999);
    }

    static void weight() {
        MachineWalks x = new MachineWalks();
        Due.due("weight(2)", x.weight(2), -1);
        Due.due("weight(-1)", x.weight(-1), -1);
        Due.due("of an empty drum", x.weight(0), 0);
        x.counter(5005);
        Due.due("instead of the one there is", x.weight(0), 0);
        Due.due("instead of the one there is", x.weight(1), 0);
        Due.due("in thought", x.counter(0), 5005);
        x.lump(2000, 0);
        Due.due("against 20", x.weight(0), 2006);
        Due.due("against 20", x.weight(1), 0);
        x.mend(0, 0, 1);
        Due.due("against 1", x.weight(0), 105);
        Due.due("against 1", x.weight(1), 0);
        x.mend(0, 0, 50);
        x.mend(0, 1, 99);
        x.mend(0, 2, 7);
        Due.due("against 149", x.weight(0), 9901);
        Due.due("against 149", x.weight(1), 52);
        Due.due("LOPSIDED stays", x.load(0), 156);
    }

    static void spread() {
        MachineWalks x = new MachineWalks();
        x.lump(1000, 0);
        x.lump(1020, 0);
        int[][] bad = {{0, 0}, {51, 0}, {-1, 0}, {1, 3}, {1, -1}, {Integer.MIN_VALUE, 0}, {Integer.MAX_VALUE, 0}};
        for (int[] b : bad) Due.due("spread(" + b[0] + ", 7, " + b[1] + ")", x.spread(b[0], 7, b[1]), -1);
        int[] times = {1, 3, 10};
        int[][] due = {{0, 38, 38}, {2, 26, 34}, {6, 20, 32}};
        for (int k = 0; k < 3; k++) {
            for (int what = 0; what < 3; what++) {
                Due.due("spread(" + times[k] + ", 7, " + what + ")", x.spread(times[k], 7, what), due[k][what]);
            }
        }
        Due.due("ANGLES stay", x.of(0, 2), 0);
        Due.due("LOPSIDED stays", x.load(0), 40);
        MachineWalks even = new MachineWalks();
        Due.due("of like ones the first", even.spread(50, 7, 0), 0);
        even.counter(1000);
        Due.due("with the counterweight", even.spread(50, 7, 1), 10);
        Due.due("with the counterweight", even.spread(50, 7, 2), 10);
    }

    static void loads() {
        MachineWalks x = heavy("600", "t<59?600;700");
        int[][] bad = {{20, 600001, 0}, {1, 600001, 0}, {-1, 600001, 0}, {0, 99001, 0}, {0, 1201001, 0}, {0, 600000, 0},
            {0, 600051, 0}, {0, 600001, 4}, {0, 600001, -1}, {0, -1, 0}, {Integer.MIN_VALUE, 600001, 0}, {0, Integer.MAX_VALUE, 0}};
        for (int[] b : bad) Due.due("loads(" + b[0] + ", " + b[1] + ", 0, " + b[2] + ")", x.loads(b[0], b[1], 0, b[2]), -1);
        Due.due("all DONE", x.loads(0, 600050, 0, 0), 50);
        Due.due("none DONE", x.loads(0, 601050, 0, 0), 0);
        Due.due("DONE in the 60th TICK", x.loads(10, 700007, 0, 0), 7);
        x.run(0, 600060, 0, 0);
        Due.due("LEFT", x.loads(0, 600007, 0, 1), x.did(1));
        Due.due("WALKED", x.loads(0, 600007, 0, 2), x.did(2));
        Due.due("none STOPPED", x.loads(0, 600007, 0, 3), 0);
        x.set(4, x.did(3));
        Due.due("none STOPPED yet", x.loads(0, 600007, 0, 3), 0);
        x.set(4, x.did(3) - 1);
        Due.due("all STOPPED", x.loads(0, 600007, 0, 3), 7);
        Due.due("in thought", x.of(0, 1), 50);
        MachineWalks last = heavy("0", "0", "0", "1000");
        for (int k = 0; k < 3; k++) last.floor(999, 909);
        Due.due("the last RULE on the first FLOOR, DONE", last.loads(30, 1000003, 0, 0), 3);
        Due.due("the last RULE on the last FLOOR, DONE", last.loads(33, 1000003, 0, 0), 3);
        Due.due("the last RULE on the first FLOOR, WALKED", last.loads(30, 1000003, 0, 2) > 0 ? 1 : 0, 1);
        Due.due("the last RULE on the last FLOOR, WALKED", last.loads(33, 1000003, 0, 2), 0);
        Due.due("the last RULE, beyond its PACE", last.loads(33, 1001003, 0, 0), 0);
        MachineWalks y = heavy("t<5?0;400+t*10");
        y.lump(3050, 30);
        y.water(Due.law(y, "l/40"));
        y.set(0, 500);
        int[] sums = new int[4];
        for (int k = 0; k < 7; k++) {
            y.run(0, 800060, Integer.MAX_VALUE - 2 + k, 0);
            sums[0] += y.did(0) >= 0 ? 1 : 0;
            sums[1] += y.did(1);
            sums[2] += y.did(2);
        }
        Due.due("SEEDS s, s + 1, DONE", y.loads(0, 800007, Integer.MAX_VALUE - 2, 0), sums[0]);
        Due.due("SEEDS s, s + 1, mean LEFT", y.loads(0, 800007, Integer.MAX_VALUE - 2, 1), sums[1] / 7);
        Due.due("SEEDS s, s + 1, mean WALKED", y.loads(0, 800007, Integer.MAX_VALUE - 2, 2), sums[2] / 7);
    }

    static void best() {
        MachineWalks x = new MachineWalks();
        Due.due("no floor, no LAWS", x.best(0, 100, 0), -1);
        x.floor(999, 909);
        Due.due("no LAWS", x.best(0, 100, 0), -5);
        int[][] bad = {{1, 100}, {-1, 100}, {0, 99}, {0, 1201}, {Integer.MAX_VALUE, 100}, {0, Integer.MIN_VALUE}};
        for (int[] b : bad) Due.due("best(" + b[0] + ", " + b[1] + ")", x.best(b[0], b[1], 0), -1);
        MachineWalks most = heavy("1100", "t=59?1200;300");
        Due.due("most DONE ahead of least WALKED", most.best(0, 1200, 0), 1);
        Due.due("least WALKED", most.best(0, 1100, 0), 0);
        MachineWalks left = new MachineWalks();
        left.lump(199, 0);
        left.floor(999, 909);
        Due.law(left, "200");
        Due.law(left, "300");
        Due.law(left, "1000");
        Due.law(left, "1000+0");
        Due.due("least LEFT, then the first", left.best(0, 200, 0), 2);
        Due.due("most DONE ahead of least LEFT", left.best(0, 1100, 0), 2);
        // the first walks by some 50 in each TICK, the second by some 14
        MachineWalks walks = heavy("1200", "t<2?1200;130");
        Due.due("least WALKED ahead of least LEFT", walks.best(0, 1200, 0), 1);
        // seen first by SEEDS 0 to 9: -2, 25, -48, -21, 1, 29, -45, -17, 5, 33
        MachineWalks nine = new MachineWalks();
        nine.floor(1, 909);
        nine.set(3, 50);
        Due.law(nine, "0");
        Due.law(nine, "t<1&d>30?1200;0");
        Due.due("SEEDS 0 to 8", nine.best(0, 1200, 0), 0);
        Due.due("SEEDS 1 to 9", nine.best(0, 1200, 1), 1);
        MachineWalks one = heavy("0");
        Due.due("the only one", one.best(0, 800, 0), 0);
    }

    static void never() {
        MachineWalks x = heavy("d<100?1200;300", "d>900?301;300", "p>1099?301;p>1000?999;0", "g*(d=500)");
        int[][] bad = {{4, 100, 0}, {-1, 100, 0}, {0, 99, 0}, {0, 1201, 0}, {0, 100, -1}, {0, 100, 951},
            {Integer.MAX_VALUE, 100, 0}, {0, Integer.MAX_VALUE, 0}, {0, 100, Integer.MIN_VALUE}};
        for (int[] b : bad) Due.due("never(" + b[0] + ", " + b[1] + ", " + b[2] + ")", x.never(b[0], b[1], b[2]), -1);
        int[][] due = {{0, 100, 100, 1}, {0, 100, 51, 1}, {0, 100, 50, 0}, {0, 100, 0, 0}, {0, 1200, 950, 1},
            {1, 100, 950, 0}, {1, 100, 0, 0}, {2, 100, 0, 0}, {2, 100, 950, 0}, {3, 300, 0, 1}, {3, 301, 0, 0},
            {3, 301, 500, 0}, {3, 301, 501, 1}, {3, 1200, 451, 0}};
        for (int[] d : due) {
            Due.due("never(" + d[0] + ", " + d[1] + ", " + d[2] + ")", x.never(d[0], d[1], d[2]), d[3]);
        }
        MachineWalks y = heavy("p%100?999;p>1100?999;d%50?999;d>950?999;w+h+l+t+s+c?999;300");
        Due.due("at no other PACES, d; the others 0", y.never(0, 500, 0), 1);
        for (int p = 0; p <= 1100; p += 100) {
            Due.due("at PACE " + p, heavy("p=" + p + "?301;0").never(0, 100, 0), 0);
        }
        for (int d = 0; d <= 950; d += 50) {
            MachineWalks z = heavy("d=" + d + "?301;0");
            Due.due("at d " + d, z.never(0, 100, d), 0);
            if (d < 950) Due.due("above d " + d, z.never(0, 100, d + 1), 1);
        }
    }

    static void beside() {
        MachineWalks x = new MachineWalks();
        int[][] bad = {{59, 0}, {1201, 0}, {60, -1}, {60, 10000}, {0, 0}, {Integer.MIN_VALUE, 0}, {60, Integer.MAX_VALUE}};
        for (int[] b : bad) Due.due("beside(" + b[0] + ", " + b[1] + ")", x.beside(b[0], b[1]), -1);
        Due.due("an empty drum", x.beside(60, 0), 0);
        x.lump(1099, 0);
        x.lump(1099, 62);
        Due.due("WET enough", x.beside(1200, 198), 0);
        Due.due("WET 198, 99 and 99", x.beside(1200, 197), 1);
        Due.due("80 and 80 then", x.beside(1200, 160), 1);
        Due.due("64 and 64 then", x.beside(1200, 159), 2);
        Due.due("from 4 each on nothing leaves", x.beside(1200, 7), -2);
        Due.due("9999", x.beside(60, 9999), 0);
        Due.due("99 * 60 is below 6000", x.beside(60, 197), -2);
        x.water(Due.law(x, "1"));
        Due.due("99 TICKS", x.beside(60, 0), 99);
        x.water(Due.law(x, "t%2"));
        Due.due("197 TICKS would be too few", x.beside(60, 0), 198);
        x.mend(1, 1, 0);
        x.water(Due.law(x, "s=t&c=0&d=0&g=0&t=199&p=77?99;h*(t=7)"));
        Due.due("the last of 200", x.beside(77, 0), 200);
        x.mend(0, 1, 0);
        x.mend(1, 1, 7);
        Due.due("h", x.beside(77, 5), 8);
        x.undo();
        x.undo();
        x.undo();
        Due.due("in thought", x.load(4), 198);
        MachineWalks y = new MachineWalks();
        y.lump(1050, 0);
        y.water(Due.law(y, "w-l+11"));
        // 50 - 60 + 11 = 1 in each TICK: w and l sink alike
        Due.due("l, w as they are", y.beside(60, 40), 10);
        y.lump(1050, 0);
        y.water(Due.law(y, "(t<1)*(l-100)"));
        Due.due("l ahead of this for both", y.beside(60, 60), 1);
        y.water(Due.law(y, "t=200"));
        Due.due("no 201st", y.beside(60, 99), -2);
    }

    static void undoAndRedo() {
        MachineWalks x = new MachineWalks();
        Due.due("none", x.undo(), -5);
        Due.due("none", x.redo(), -5);
        x.lump(1020, 30);
        Due.due("a LUMP is none", x.undo(), -5);
        x.mend(0, 0, 11);
        x.mend(0, 1, 21);
        x.mend(0, 2, 4);
        x.counter(105);
        x.set(0, 400);
        x.floor(1, 909);
        Due.due("count(4)", x.count(4), 4);
        x.mend(0, 0, 11);
        x.mend(0, 1, 21);
        x.mend(0, 2, 4);
        x.counter(105);
        x.mend(0, 0, 99);
        Due.due("the same number is none", x.count(4), 4);
        Due.due("the latest first", x.undo(), 3);
        Due.due("the counterweight", x.counter(0), 0);
        Due.due("the same number leaves those that were undone", x.redo(), 0);
        Due.due("X with the counterweight", x.load(1), -1600 - 86);
        Due.due("Y with the counterweight", x.load(2), 2771 + 50);
        Due.due("back", x.undo(), 3);
        Due.due("back", x.undo(), 2);
        Due.due("ANGLE", x.of(0, 2), 3);
        Due.due("back", x.undo(), 1);
        Due.due("WET", x.of(0, 1), 20);
        Due.due("back", x.undo(), 0);
        Due.due("DRY", x.of(0, 0), 10);
        Due.due("none", x.undo(), -5);
        Due.due("on", x.redo(), 3);
        Due.due("DRY", x.of(0, 0), 11);
        Due.due("on", x.redo(), 2);
        Due.due("WET", x.of(0, 1), 21);
        x.lump(3030, 0);
        Due.due("a LUMP is no change", x.redo(), 1);
        Due.due("ANGLE", x.of(0, 2), 4);
        Due.due("count(4)", x.count(4), 3);
        x.mend(1, 1, 31);
        Due.due("another came behind", x.redo(), -5);
        Due.due("count(4)", x.count(4), 4);
        Due.due("back", x.undo(), 3);
        Due.due("WET of the second", x.of(1, 1), 30);
        x.counter(9);
        Due.due("the counterweight came behind", x.redo(), -5);
        Due.due("BEAT stays", x.set(0, 400), 400);
    }

    static void fortyChanges() {
        MachineWalks x = new MachineWalks();
        x.lump(100, 0);
        for (int k = 1; k <= 41; k++) {
            x.mend(0, 1, k);
            Due.due("count(4)", x.count(4), Math.min(k, 40));
        }
        for (int k = 39; k >= 0; k--) Due.due("undo()", x.undo(), k);
        Due.due("the first is gone", x.of(0, 1), 1);
        Due.due("none", x.undo(), -5);
        for (int k = 39; k >= 0; k--) {
            Due.due("redo()", x.redo(), k);
            Due.due("WET", x.of(0, 1), 41 - k);
        }
        Due.due("none", x.redo(), -5);
        for (int k = 0; k < 10; k++) x.undo();
        x.counter(105);
        Due.due("count(4)", x.count(4), 31);
        for (int k = 0; k < 20; k++) x.mend(0, 1, 60 + k);
        Due.due("count(4)", x.count(4), 40);
        for (int k = 0; k < 20; k++) x.undo();
        Due.due("WET", x.of(0, 1), 31);
        Due.due("X of the counterweight, too", x.load(1), 3200 - 86);
        x.undo();
        Due.due("X without", x.load(1), 3200);
        for (int k = 0; k < 19; k++) x.undo();
        Due.due("the oldest that is left is undone", x.of(0, 1), 12);
        Due.due("none", x.undo(), -5);
    }
}
