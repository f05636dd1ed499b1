/** Sentences of Terms 3 (what is asked in thought, changes), and of promises 17 to 26: each method stands for one. */
final class ThoughtSentences {
    private static final int MIN = Integer.MIN_VALUE, MAX = Integer.MAX_VALUE;

    private ThoughtSentences() {
    }

    static void all() {
        fear();
        fearAnswers();
        may();
        mayAnswers();
        weight();
        weightOfLikeOnes();
        weightAnswers();
        spreadTimes();
        spreadInOrder();
        spreadLeast();
        spreadMean();
        spreadAnswers();
        loadsTimes();
        loadsInThought();
        loadsTicks();
        loadsSeeds();
        loadsDone();
        loadsLeft();
        loadsWalked();
        loadsStopped();
        loadsAnswers();
        bestOfAll();
        bestOrder();
        bestAnswers();
        neverPaces();
        neverSeen();
        neverOthers();
        neverMoreThan300();
        neverAnswers();
        besideTicks();
        besideByWatersLaw();
        besideTill();
        besideAnswers();
        changes();
        sameNumber();
        latestFirst();
        doneAgain();
        forty();
        deedEndsThem();
        undo();
        redo();
    }

    static Asked heavy(String... rules) {
        return RunSentences.heavy(rules);
    }

    static int rest(int seed) {
        return (RunSentences.drawn(seed) >>> 8) % 101;
    }

    /** A SEED of which the first draw with NOISE 50 is the greatest, and of no other one within ten of it. */
    static int rareSeed() {
        int seed = 20;
        while (!isRare(seed)) seed++;
        return seed;
    }

    private static boolean isRare(int seed) {
        for (int k = -10; k <= 10; k++) {
            if ((rest(seed + k) == 100) != (k == 0)) return false;
        }
        return true;
    }

    /** By this rule only a rare SEED goes fast, and for one TICK: WET is 40 then, SHAKE there 95. */
    static final String RARELY = "t<1&d>149?1200;60";

    static Asked rarely(int grip, String... rules) {
        Asked x = new Asked().lump(5050, 0);
        x.floor(grip, 909);
        x.set(3, 50);
        for (String r : rules) x.law(r);
        return x;
    }

    static void fear() {
        Due.stands("FEAR: of PACES 10, 20 .. 1200 that with the greatest SHAKE of the load as it lies (of like ones the least); that SHAKE.", 17);
        Asked empty = new Asked();
        empty.fear(0).is(10);
        empty.fear(1).is(0);
        Asked x = heavy();
        x.fear(0).is(310);
        x.fear(1).is(961);
        x.set(0, 100);
        x.set(1, 1);
        x.fear(0).is(100);
        x.fear(1).is(10000);
        x.counter(5006);
        x.fear(1).is(5000);
        x.counter(0);
        x.set(0, 900);
        x.set(1, 9999);
        // u u by (u u less 8100, and 9999): 87 at 1180, 88 at 1190 and at 1200
        x.fear(0).is(1190);
        x.fear(1).is(88);
        Asked most = new Asked();
        for (int i = 0; i < 6; i++) most.lump(5099, 0);
        most.set(0, 900);
        most.set(1, 9999);
        // 788 at 1190
        most.fear(0).is(1200);
        most.fear(1).is(789);
    }

    static void fearAnswers() {
        Due.stands("FEAR: the PACE (what 0), the SHAKE (1). BAD.", 17);
        Asked x = heavy();
        int[] bad = {-1, 2, MIN, MAX};
        for (int what : bad) x.fear(what).is(-1);
        x.fear(0).is(310);
        x.fear(1).is(961);
    }

    static void may() {
        Due.stands("MAY: the greatest LOPSIDED (0 .. 9999) with which no PACE 10, 20 .. up to a GOAL shakes above GRIP of a FLOOR.", 18);
        Asked x = new Asked();
        int[] grips = {120, 115, 114, 99};
        for (int g : grips) x.floor(g, 909);
        // 21 * 900 by 161 is 117, 22 is 122; 12 * 961 by 100 is 115, 13 is 124
        x.may(0, 300).is(21);
        x.may(0, 309).is(21);
        x.may(0, 310).is(12);
        x.may(1, 310).is(12);
        x.may(2, 310).is(11);
        x.may(0, 1200).is(12);
        // at 100 by (861 and DAMP): (100 times that, less 1) by 100
        x.set(1, 9138);
        x.may(3, 100).is(9998);
        x.may(3, 109).is(9998);
        x.set(1, 9139);
        x.may(3, 100).is(9999);
        x.set(1, 9140);
        x.may(3, 100).is(9999);
        x.set(1, 9999);
        x.may(0, 100).is(9999);
        Asked y = new Asked();
        y.floor(960, 909);
        y.floor(961, 909);
        y.floor(1, 909);
        y.set(1, 1);
        y.may(0, 310).is(0);
        y.may(1, 310).is(1);
        y.may(2, 310).is(0);
        y.may(0, 309).is(66);
        y.lump(5099, 0);
        y.may(1, 310).is(1);
        // with BEAT 900 and DAMP 9999 it shakes most at 1200: 14400 by 16299; at 1190 14161 by 16060
        Asked z = new Asked();
        z.floor(881, 909);
        z.set(0, 900);
        z.set(1, 9999);
        z.may(0, 1190).is(1000);
        z.may(0, 1199).is(1000);
        z.may(0, 1200).is(998);
    }

    static void mayAnswers() {
        Due.stands("MAY on a FLOOR to a GOAL. BAD.", 18);
        Asked x = new Asked();
        x.may(0, 100).is(-1);
        x.floor(1, 909);
        x.floor(2, 909);
        int[][] bad = {{-1, 100}, {2, 100}, {4, 100}, {MIN, 100}, {MAX, 100}, {0, 99}, {0, 1201}, {0, MIN}, {0, MAX}};
        for (int[] b : bad) x.may(b[0], b[1]).is(-1);
        x.may(0, 100).is((2 * 961 - 1) / 100);
        x.may(1, 100).is((3 * 961 - 1) / 100);
    }

    static void weight() {
        Due.stands("WEIGHT: of COUNTERWEIGHTS 0 .. 99 at all ANGLES (in thought) that by which it is least LOPSIDED:", 19);
        new Asked().weight(0).is(0);
        for (int a = 0; a < 12; a++) {
            Asked x = new Asked().lump(1000, 10 * a);
            x.weight(0).is(1000 + (a + 6) % 12);
            x.weight(1).is(0);
            x.load(0).is(10);
        }
        int[][] most = {{4949, 9800, 0}, {5049, 9900, 0}, {5050, 9900, 1}, {5099, 9900, 50}};
        for (int[] m : most) {
            Asked x = new Asked().lump(m[0], 60);
            x.weight(0).is(m[1]);
            x.weight(1).is(m[2]);
            x.counter(0).is(0);
            x.count(4).is(0);
        }
    }

    static void weightOfLikeOnes() {
        Due.stands("of like ones the least weight, then the least ANGLE (instead of the one there is).", 19);
        // 1 at ANGLE 5, 6 and 7 all leave less than 100
        Asked x = new Asked().lump(100, 0);
        x.weight(0).is(105);
        x.weight(1).is(0);
        // 1 at ANGLE 11, 0 and 1
        new Asked().lump(100, 60).weight(0).is(100);
        // even without any
        Asked even = new Asked().lump(1000, 0).lump(1000, 60);
        even.weight(0).is(0);
        even.counter(9905);
        even.weight(0).is(0);
        even.weight(1).is(0);
        x.counter(9900);
        x.weight(0).is(105);
        x.weight(1).is(0);
        x.counter(0).is(9900);
    }

    static void weightAnswers() {
        Due.stands("WEIGHT: 100 times it, and the ANGLE (what 0), LOPSIDED then (1). BAD.", 19);
        Asked x = heavy();
        int[] bad = {-1, 2, MIN, MAX};
        for (int what : bad) x.weight(what).is(-1);
        x.weight(0).is(9906);
        x.weight(1).is(1);
        x.load(0).is(100);
    }

    /** LUMPS 10, 30, 70 and 120 heavy. */
    static Asked four() {
        return new Asked().lump(1000, 0).lump(3000, 0).lump(3535, 0).lump(5070, 0);
    }

    static void spreadTimes() {
        Due.stands("SPREAD: of n tumblings (1 .. 50) by a SEED", 20);
        Asked x = four();
        int[] bad = {0, 51, -1, MIN, MAX};
        for (int n : bad) x.spread(n, 172, 0).is(-1);
        x.spread(1, 172, 1).is(190);
        x.spread(49, 172, 1).is(39);
        x.spread(50, 172, 1).is(37);
        int[] seeds = {MIN, -1, 0, MAX};
        for (int seed : seeds) {
            Asked one = heavy();
            boolean upright = (RunSentences.drawn(seed) >>> 8) % 3 == 0;
            one.spread(1, seed, 1).is(upright ? 100 : 105);
        }
    }

    static void spreadInOrder() {
        Due.stands("(LUMPS in order, a draw each, in thought)", 20);
        Asked x = new Asked().lump(1000, 0).lump(3000, 30);
        x.counter(505);
        for (int seed = 0; seed < 12; seed++) {
            int first = RunSentences.drawn(seed);
            int second = RunSentences.drawn(first);
            Asked y = new Asked().lump(1000, 10 * ((first >>> 8) % 12)).lump(3000, 10 * ((second >>> 8) % 12));
            y.counter(505);
            x.spread(1, seed, 1).is(y.load(0).answer());
        }
        x.of(0, 2).is(0);
        x.of(1, 2).is(3);
    }

    static void spreadLeast() {
        Due.stands("that after which it is least LOPSIDED: which (from 0), how much;", 20);
        Asked x = four();
        int[][] due = {{1, 0, 190}, {49, 18, 39}, {50, 49, 37}};
        for (int[] d : due) {
            x.spread(d[0], 172, 0).is(d[1]);
            x.spread(d[0], 172, 1).is(d[2]);
        }
        // of like ones the first
        new Asked().spread(50, 172, 0).is(0);
    }

    static void spreadMean() {
        Due.stands("the mean (cut).", 20);
        Asked x = four();
        // with 49 tumblings 33 / 49 are cut, with 50 36 / 50
        x.spread(1, 172, 2).is(190);
        x.spread(49, 172, 2).is(134);
        x.spread(50, 172, 2).is(132);
        new Asked().spread(50, 172, 2).is(0);
    }

    static void spreadAnswers() {
        Due.stands("SPREAD: which (what 0), how much (1), the mean (2). BAD.", 20);
        Asked x = four();
        int[] bad = {-1, 3, MIN, MAX};
        for (int what : bad) x.spread(50, 172, what).is(-1);
        int[] due = {49, 37, 132};
        for (int what = 0; what < 3; what++) x.spread(50, 172, what).is(due[what]);
    }

    static void loadsTimes() {
        Due.stands("LOADS: n times (1 .. 50)", 21);
        Asked x = heavy("600");
        int[] bad = {0, 51, 200, 999};
        for (int n : bad) x.loads(0, 600000 + n, 0, 0).is(-1);
        for (int n = 1; n <= 50; n += 49) x.loads(0, 600000 + n, 0, 0).is(n);
    }

    static void loadsInThought() {
        Due.stands("a RUN in thought by a RULE, a FLOOR, to a GOAL,", 21);
        Asked x = heavy("600", "700");
        x.floor(999, 909);
        x.mend(0, 0, 49);
        x.mend(0, 0, 50);
        x.undo();
        x.loads(0, 601007, 0, 0).is(0);
        x.loads(10, 601007, 0, 0).is(7);
        x.loads(11, 601007, 0, 2).is(0);
        x.run(10, 601060, 0, 0);
        long walked = x.did(2).answer();
        Due.holds("it walks", walked > 0);
        x.loads(10, 601007, 0, 2).is(walked);
        x.of(0, 1).is(50);
        x.of(0, 2).is(0);
        x.redo().is(0);
    }

    static void loadsTicks() {
        Due.stands("60 TICKS,", 21);
        Asked x = heavy("t<59?100;1200", "t<60?100;1200");
        x.loads(0, 1200003, 0, 0).is(3);
        x.loads(10, 1200003, 0, 0).is(0);
    }

    static void loadsSeeds() {
        Due.stands("SEEDS s, s + 1 .. :", 21);
        int rare = rareSeed();
        Asked x = rarely(999, RARELY);
        x.loads(0, 1200001, rare, 0).is(1);
        x.loads(0, 1200005, rare, 0).is(1);
        x.loads(0, 1200002, rare - 2, 0).is(0);
        x.loads(0, 1200003, rare - 2, 0).is(1);
        x.loads(0, 1200005, rare + 1, 0).is(0);
        // behind the greatest int the least
        int last = 50 + rest(MAX);
        int first = 50 + rest(MIN);
        Due.holds("the draws are not alike", last != first);
        Asked round = rarely(999, "t<1&d=" + first + "?1200;60", "t<1&d=" + last + "?1200;60");
        round.loads(0, 1200001, MAX, 0).is(0);
        round.loads(0, 1200002, MAX, 0).is(1);
        round.loads(10, 1200002, MAX, 0).is(1);
        round.loads(10, 1200001, MIN, 0).is(0);
    }

    static void loadsDone() {
        Due.stands("how many are DONE;", 21);
        int rare = rareSeed();
        Asked x = rarely(999, RARELY);
        x.loads(0, 1200009, rare - 4, 0).is(1);
        x.loads(0, 100009, rare - 4, 0).is(1);
        x.loads(0, 1200004, rare - 4, 0).is(0);
        Asked y = heavy("600");
        y.loads(0, 600009, 0, 0).is(9);
        y.loads(0, 601009, 0, 0).is(0);
    }

    static void loadsLeft() {
        Due.stands("the mean LEFT (cut);", 21);
        int rare = rareSeed();
        Asked x = rarely(999, RARELY);
        // 40 of the rare one, 50 of the others: 140 by 3, 490 by 10
        x.loads(0, 1200001, rare, 1).is(40);
        x.loads(0, 1200002, rare, 1).is(45);
        x.loads(0, 1200003, rare, 1).is(46);
        x.loads(0, 1200010, rare, 1).is(49);
        x.loads(0, 1200010, rare + 1, 1).is(50);
    }

    static void loadsWalked() {
        Due.stands("the mean WALKED (cut);", 21);
        int rare = rareSeed();
        Asked x = rarely(3, RARELY);
        x.loads(0, 1200001, rare, 2).is(92);
        x.loads(0, 1200002, rare, 2).is(46);
        x.loads(0, 1200003, rare, 2).is(30);
        x.loads(0, 1200010, rare, 2).is(9);
        x.loads(0, 1200010, rare + 1, 2).is(0);
    }

    static void loadsStopped() {
        Due.stands("how many STOPPED.", 21);
        int rare = rareSeed();
        Asked x = rarely(3, RARELY);
        x.loads(0, 1200003, rare, 3).is(0);
        x.set(4, 92);
        x.loads(0, 1200003, rare, 3).is(0);
        x.set(4, 91);
        x.loads(0, 1200003, rare, 3).is(1);
        x.loads(0, 1200003, rare + 1, 3).is(0);
        Asked y = heavy("100");
        y.set(0, 100);
        y.set(4, 1);
        y.loads(0, 100050, 0, 3).is(50);
    }

    static void loadsAnswers() {
        Due.stands("LOADS (rf; gn: 1000 times the GOAL, and n): DONE (what 0), LEFT (1), WALKED (2), STOPPED (3). BAD.", 21);
        int rare = rareSeed();
        Asked x = rarely(3, RARELY);
        x.set(4, 91);
        int[] due = {1, 46, 30, 1};
        for (int what = 0; what < 4; what++) x.loads(0, 1200003, rare, what).is(due[what]);
        int[] bad = {-1, 4, MIN, MAX};
        for (int what : bad) x.loads(0, 1200003, rare, what).is(-1);
        int[] badRf = {-1, -10, 1, 4, 10, 40, MIN, MAX};
        for (int rf : badRf) x.loads(rf, 1200003, rare, 0).is(-1);
        int[] badGn = {-1, 0, 3, 99001, 1201001, 100000, 100051, MIN, MAX};
        for (int gn : badGn) x.loads(0, gn, rare, 0).is(-1);
    }

    static void bestOfAll() {
        Due.stands("BEST RULE of LAWS 0 .. (all there are), by LOADS with 9 times:", 22);
        Asked x = new Asked();
        x.floor(999, 909);
        for (int i = 0; i < 4; i++) {
            x.law("" + (100 + i));
            // to a GOAL that only the last one is at
            x.best(0, 100 + i, 0).is(i);
        }
        int rare = rareSeed();
        Asked nine = rarely(999, "60", RARELY);
        nine.best(0, 1200, rare - 9).is(0);
        nine.best(0, 1200, rare - 8).is(1);
        nine.best(0, 1200, rare).is(1);
        nine.best(0, 1200, rare + 1).is(0);
    }

    /** Which of two rules is best, and, in the other order, the other number. */
    static void better(int grip, int goal, int seed, String best, String other) {
        rarely(grip, best, other).best(0, goal, seed).is(0);
        rarely(grip, other, best).best(0, goal, seed).is(1);
    }

    static void bestOrder() {
        Due.stands("most DONE, then least mean WALKED, then least mean LEFT, then the first.", 22);
        int rare = rareSeed();
        // one more is DONE, though it walks
        better(1, 1200, rare, "t<1&d>149?1200;0", "0");
        better(3, 1200, rare, "1200", RARELY);
        // as many are DONE: less walking, though more is LEFT
        better(3, 1200, rare, "t<1?1200;60", "t<2?1200;60");
        better(999, 1200, rare, "1200", "t<59?60;1200");
        // as much walking, in the first TICK alone: less is LEFT
        better(90, 1200, rare, "1200", "t<1?1200;60");
        // a mean of 6 by 9 is none, and LEFT is less
        better(90, 1200, rare, "t<1&d>149?1199;60", "60");
        // LEFT 449 and 441 by 9 are alike
        rarely(90, "t<1&d>149?120;60", "t<1&d>149?1199;60").best(0, 1200, rare).is(0);
        rarely(90, "t<1&d>149?1199;60", "t<1&d>149?120;60").best(0, 1200, rare).is(0);
        rarely(90, "60", "60+0", "60", "60").best(0, 1200, rare).is(0);
        rarely(999, "60", "600", "600+0", "60").best(0, 1200, rare).is(1);
    }

    static void bestAnswers() {
        Due.stands("BEST RULE on a FLOOR to a GOAL. BAD; STATE: no LAWS.", 22);
        Asked x = new Asked();
        x.best(0, 100, 0).is(-1);
        x.floor(1, 909);
        x.best(0, 100, 0).is(-5);
        x.best(0, 99, 0).is(-1);
        x.best(1, 100, 0).is(-1);
        x.law("?").is(-100);
        x.best(0, 100, 0).is(-5);
        x.law("100").is(0);
        x.best(0, 100, 0).is(0);
        int[][] bad = {{-1, 100}, {1, 100}, {4, 100}, {MIN, 100}, {MAX, 100}, {0, 99}, {0, 1201}, {0, MIN}, {0, MAX}};
        for (int[] b : bad) x.best(b[0], b[1], 0).is(-1);
        int[] seeds = {MIN, -1, MAX - 8, MAX};
        for (int seed : seeds) x.best(0, 1200, seed).is(0);
    }

    /** NEVER of one rule: to the GOAL 100, by v. */
    static void never(String rule, int v, int due) {
        Asked x = new Asked();
        x.law(rule).is(0);
        x.never(0, 100, v).is(due);
    }

    static void neverPaces() {
        Due.stands("NEVER: whether a RULE, at all PACES 0, 100 .. 1100,", 23);
        for (int pace = 0; pace <= 1100; pace += 100) never("p=" + pace + "?301;0", 0, 0);
        never("p=1200?301;0", 0, 1);
        never("p<0?301;0", 0, 1);
        never("p%100?301;0", 0, 1);
    }

    static void neverSeen() {
        Due.stands("d 0, 50 .. 950,", 23);
        for (int d = 0; d <= 950; d += 50) never("d=" + d + "?301;0", 0, 0);
        never("d=1000?301;0", 0, 1);
        never("d<0?301;0", 0, 1);
        never("d%50?301;0", 0, 1);
    }

    static void neverOthers() {
        Due.stands("a GOAL, t, s, c 0, h, w, l 0,", 23);
        Asked x = new Asked().lump(5050, 9);
        x.law("t+s+c+h+w+l?301;0");
        x.law("g=100?301;0");
        x.law("g=1200?301;0");
        x.never(0, 100, 0).is(1);
        x.never(1, 100, 0).is(0);
        x.never(1, 101, 0).is(1);
        x.never(2, 1200, 0).is(0);
        x.never(2, 1199, 0).is(1);
    }

    static void neverMoreThan300() {
        Due.stands("never gives more than 300 where d is v or more: 1; else 0.", 23);
        never("300", 0, 1);
        never("301", 0, 0);
        never("9999", 950, 0);
        never("-1", 0, 1);
        never("d=500?301;300", 500, 0);
        never("d=500?301;300", 501, 1);
        never("d=500?301;300", 499, 0);
        never("d=950?301;300", 950, 0);
        never("d=900?301;300", 950, 1);
        never("d=0?301;300", 0, 0);
        never("d=0?301;300", 1, 1);
    }

    static void neverAnswers() {
        Due.stands("NEVER of a RULE, to a GOAL, by v (0 .. 950). BAD.", 23);
        Asked x = new Asked();
        x.never(0, 100, 0).is(-1);
        x.law("0");
        x.law("301");
        int[][] bad = {{-1, 100, 0}, {2, 100, 0}, {4, 100, 0}, {MIN, 100, 0}, {MAX, 100, 0}, {0, 99, 0}, {0, 1201, 0}, {0, MIN, 0},
            {0, MAX, 0}, {0, 100, -1}, {0, 100, 951}, {0, 100, MIN}, {0, 100, MAX}};
        for (int[] b : bad) x.never(b[0], b[1], b[2]).is(-1);
        x.never(0, 100, 0).is(1);
        x.never(0, 100, 950).is(1);
        x.never(1, 100, 0).is(0);
        x.never(1, 100, 950).is(0);
    }

    static void besideTicks() {
        Due.stands("BESIDE: how many TICKS (0 .. 200) at a PACE,", 24);
        Asked x = heavy("t=198", "t=199", "t=200");
        x.beside(100, 50).is(0);
        x.water(0);
        x.beside(100, 49).is(199);
        x.water(1);
        x.beside(100, 49).is(200);
        x.water(2);
        x.beside(100, 49).is(-2);
        x.beside(100, 50).is(0);
        x.law("p=77");
        x.water(3);
        x.beside(77, 0).is(50);
        x.beside(78, 0).is(-2);
    }

    static void besideByWatersLaw() {
        Due.stands("by THE WATER's law alone (in thought, as they lie, from TICK 0 on; s the TICK, c 0),", 24);
        Asked x = heavy("(t=0)*7+(t=1)*11", "(s=t)*(c=0)*(d=0)*(g=0)", "w-l+51");
        x.water(0);
        x.beside(60, 43).is(1);
        x.beside(60, 42).is(2);
        x.beside(60, 32).is(2);
        x.beside(60, 31).is(-2);
        x.water(1);
        x.beside(60, 0).is(50);
        // LOPSIDED as it lies, 50 and w ahead of each TICK: 1 leaves
        x.water(2);
        x.beside(60, 0).is(50);
        x.water(-1);
        // 50, 40, 32, 26 by 1200; by 119 nothing leaves, by 120 only of 50
        x.beside(1200, 40).is(1);
        x.beside(1200, 39).is(2);
        x.beside(1200, 32).is(2);
        x.beside(1200, 31).is(3);
        x.beside(119, 49).is(-2);
        x.beside(120, 49).is(1);
        x.beside(120, 48).is(-2);
        x.of(0, 1).is(50);
        x.of(0, 2).is(0);
        Asked two = new Asked().lump(2525, 0).lump(2525, 0);
        two.law("(l=100)*5");
        two.water(0);
        two.beside(60, 40).is(1);
        two.beside(60, 39).is(-2);
        two.of(0, 1).is(25);
    }

    static void besideTill() {
        Due.stands("till WET of all is at most m; NOT.", 24);
        Asked x = heavy("1");
        x.lump(150, 60);
        x.water(0);
        x.beside(60, 101).is(0);
        x.beside(60, 100).is(0);
        x.beside(60, 99).is(1);
        x.beside(60, 98).is(1);
        x.beside(60, 97).is(2);
        x.beside(60, 0).is(50);
        x.water(-1);
        x.beside(60, 99).is(-2);
        new Asked().beside(60, 0).is(0);
    }

    static void besideAnswers() {
        Due.stands("BESIDE at a PACE (60 .. 1200) to m (0 .. 9999). BAD; NOT.", 24);
        Asked x = heavy("1");
        x.water(0);
        int[][] bad = {{59, 0}, {1201, 0}, {0, 0}, {-60, 0}, {MIN, 0}, {MAX, 0}, {60, -1}, {60, 10000}, {60, MIN}, {60, MAX}};
        for (int[] b : bad) x.beside(b[0], b[1]).is(-1);
        x.beside(60, 0).is(50);
        x.beside(1200, 0).is(50);
        x.beside(60, 9999).is(0);
        x.water(-1);
        x.beside(60, 0).is(-2);
    }

    static void changes() {
        Due.stands("CHANGES (DRY, WET, ANGLE of LUMPS by telling; the COUNTERWEIGHT;", 4, 6, 25, 26);
        Asked x = new Asked();
        x.lump(1020, 30).count(4).is(0);
        x.mend(0, 0, 11).count(4).is(1);
        x.mend(0, 1, 21).count(4).is(2);
        x.mend(0, 2, 4).count(4).is(3);
        x.counter(105).count(4).is(4);
        // what is no change of these
        x.rowOf(0, 0, 1, 1, 1, 1);
        x.lumps(0, 0, 1).is(1);
        x.set(0, 400);
        x.floor(1, 909);
        x.law("0").is(0);
        x.water(0);
        x.run(0, 100005, 0, 0);
        x.count(4).is(4);
        int[] left = {3, 2, 1, 0};
        for (int l : left) x.undo().is(l);
        int[] lump = {10, 20, 3, 0};
        for (int what = 0; what < 4; what++) x.of(0, what).is(lump[what]);
        x.counter(0).is(0);
        x.count(0).is(2);
        x.set(0, 310).is(400);
        for (int l : left) x.redo().is(l);
        int[] again = {11, 21, 4, 0};
        for (int what = 0; what < 4; what++) x.of(0, what).is(again[what]);
        x.counter(105).is(105);
    }

    static void sameNumber() {
        Due.stands("telling the same number is none)", 4, 6, 25);
        Asked x = new Asked().lump(1020, 30);
        x.mend(0, 0, 10).is(10);
        x.mend(0, 1, 20).is(20);
        x.mend(0, 2, 3).is(3);
        x.counter(0).is(0);
        x.count(4).is(0);
        x.undo().is(-5);
        x.mend(0, 0, 11).is(10);
        x.counter(100).is(0);
        x.undo().is(1);
        x.mend(0, 0, 11).is(11);
        x.counter(0).is(0);
        x.count(4).is(1);
        // those that were undone are still there
        x.redo().is(0);
        x.counter(100).is(100);
        x.count(4).is(2);
    }

    static void latestFirst() {
        Due.stands("can be UNDONE, the latest first,", 25);
        Asked x = new Asked().lump(1020, 30).lump(1121, 30);
        x.mend(0, 0, 12);
        x.mend(1, 0, 13);
        x.mend(0, 0, 14);
        x.undo().is(2);
        x.of(0, 0).is(12);
        x.of(1, 0).is(13);
        x.undo().is(1);
        x.of(0, 0).is(12);
        x.of(1, 0).is(11);
        x.undo().is(0);
        x.of(0, 0).is(10);
    }

    static void doneAgain() {
        Due.stands("and DONE AGAIN (as long as no other came behind);", 26);
        Asked x = new Asked().lump(1020, 30);
        x.mend(0, 0, 11);
        x.mend(0, 0, 12);
        x.undo();
        x.redo().is(0);
        x.of(0, 0).is(12);
        x.undo();
        x.undo();
        x.redo().is(1);
        x.of(0, 0).is(11);
        // a telling that is refused, and a LUMP, are none that came behind
        x.mend(0, 0, 51).is(-1);
        x.counter(12).is(-1);
        x.lump(100, 0);
        x.redo().is(0);
        x.of(0, 0).is(12);
        x.undo();
        x.mend(1, 1, 5);
        x.redo().is(-5);
        x.count(4).is(2);
        x.undo();
        x.counter(100);
        x.redo().is(-5);
        x.of(1, 1).is(0);
    }

    static void forty() {
        Due.stands("40 at most are kept;", 4, 6, 25, 26, 36);
        for (int told = 39; told <= 42; told++) {
            Asked x = new Asked().lump(100, 0);
            for (int k = 1; k <= told; k++) x.mend(0, 1, k).is(k - 1);
            int kept = Math.min(told, 40);
            x.count(4).is(kept);
            for (int k = 1; k <= kept; k++) x.undo().is(kept - k);
            x.of(0, 1).is(told - kept);
            x.undo().is(-5);
            for (int k = 1; k <= kept; k++) x.redo().is(kept - k);
            x.of(0, 1).is(told);
            x.redo().is(-5);
        }
        Asked x = new Asked().lump(100, 0);
        for (int k = 1; k <= 40; k++) x.mend(0, 1, k);
        x.counter(100).is(0);
        x.count(4).is(40);
        for (int k = 39; k >= 0; k--) x.undo().is(k);
        x.of(0, 1).is(1);
        x.counter(0).is(0);
        fortyOfAllSorts();
        fortyWithSomeUndone();
    }

    /** 43 CHANGES, in turn DRY of LUMP 0, WET of LUMP 1, ANGLE of LUMP 2 and the COUNTERWEIGHT: the k-th tells 1 + k / 4. */
    private static void fortyOfAllSorts() {
        Asked x = new Asked().lump(5000, 0).lump(5000, 0).lump(5000, 0);
        for (int k = 0; k < 43; k++) {
            if (k % 4 == 3) x.counter(100 * toldBy(k));
            else x.mend(k % 4, k % 4, toldBy(k));
        }
        x.count(4).is(40);
        for (int k = 42; k >= 3; k--) {
            x.undo().is(k - 3);
            nowIs(x, k, k < 4 ? before(k) : toldBy(k - 4));
        }
        x.undo().is(-5);
        for (int k = 3; k < 43; k++) {
            x.redo().is(42 - k);
            nowIs(x, k, toldBy(k));
        }
        x.redo().is(-5);
    }

    /** Of forty five are UNDONE, and others come: none is lost till there are more than forty again. */
    private static void fortyWithSomeUndone() {
        Asked x = new Asked().lump(100, 0);
        for (int k = 1; k <= 40; k++) x.mend(0, 1, k);
        for (int k = 39; k >= 35; k--) x.undo().is(k);
        for (int k = 36; k <= 40; k++) {
            x.mend(0, 1, 50 + k);
            x.count(4).is(k);
            x.redo().is(-5);
        }
        x.mend(0, 1, 91);
        x.count(4).is(40);
        for (int k = 39; k >= 0; k--) x.undo().is(k);
        x.of(0, 1).is(1);
        x.undo().is(-5);
    }

    private static int toldBy(int k) {
        return 1 + k / 4;
    }

    private static int before(int k) {
        return k == 0 ? 50 : 0;
    }

    /** What the k-th of these CHANGES told is now v; the COUNTERWEIGHT is seen by X, as all LUMPS but 2 lie at ANGLE 0. */
    private static void nowIs(Asked x, int k, int v) {
        if (k % 4 < 3) {
            x.of(k % 4, k % 4).is(v);
            return;
        }
        int dry = (int) x.of(0, 0).answer();
        int wet = (int) x.of(1, 1).answer();
        int angle = (int) x.of(2, 2).answer();
        int[] c = {1000, 866, 500, 0, -500, -866, -1000, -866, -500, 0, 500, 866};
        x.load(1).is(100 * (dry + 50 + wet + v) + 50 * c[angle] / 10);
    }

    static void deedEndsThem() {
        Due.stands("a RUN in deed ends them all.", 14, 25, 26);
        for (int deed = 0; deed <= 1; deed++) {
            Asked x = heavy("60");
            x.mend(0, 0, 40);
            x.mend(0, 0, 50);
            x.undo();
            x.run(0, 100001, 0, 2).is(-1);
            x.run(0, 100001, 0, deed).is(60);
            x.count(4).is(deed == 1 ? 0 : 1);
            x.redo().is(deed == 1 ? -5 : 0);
            x.undo().is(deed == 1 ? -5 : 1);
            x.of(0, 0).is(40);
            x.mend(0, 0, 30);
            x.count(4).is(deed == 1 ? 1 : 2);
        }
    }

    static void undo() {
        Due.stands("UNDONE: how many may still be. STATE: none.", 25);
        Asked x = new Asked();
        x.undo().is(-5);
        x.counter(100);
        x.counter(200);
        x.undo().is(1);
        x.undo().is(0);
        x.undo().is(-5);
        x.count(4).is(0);
        x.redo().is(1);
        x.undo().is(0);
    }

    static void redo() {
        Due.stands("DONE AGAIN: how many may still be. STATE: none.", 26);
        Asked x = new Asked();
        x.redo().is(-5);
        x.counter(100);
        x.redo().is(-5);
        x.counter(200);
        x.undo();
        x.undo();
        x.redo().is(1);
        x.redo().is(0);
        x.redo().is(-5);
        x.counter(200).is(200);
    }
}
