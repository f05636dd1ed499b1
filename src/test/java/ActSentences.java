/** Sentences of Terms 4 (loads, acts, the trace), and of promises 27 to 29: each method stands for one of them. */
final class ActSentences {
    private static final int MIN = Integer.MIN_VALUE, MAX = Integer.MAX_VALUE, HALF = 1 << 30;
    private static final int LOAD = 0, SPREAD = 1, LUMPED = 2, SINGLE = 3, RUBBER = 4, SHOES = 5, CHANGING = 6, EMPTY = 7;
    private static final int CLINGS = 0, SHAKES = 1, HOPS = 2, TELLS = 3;

    private ActSentences() {
    }

    static void all() {
        bodies();
        kinds();
        acts();
        clings();
        shakes();
        hops();
        tells();
        spread();
        lumped();
        singleHops();
        singleShakes();
        rubber();
        shoes();
        changing();
        emptyShakes();
        emptyTells();
        ownOrAbove();
        fromAbove();
        trace();
        traceKept();
        body();
        act();
        actOfNone();
        traceBody();
    }

    /** An act of a LOAD with this number, behind others of KIND LOAD. */
    static Asked act(int kind, int number, int act, int x) {
        Asked a = new Asked();
        for (int i = 0; i < number; i++) a.body(LOAD);
        a.body(kind).is(number);
        return a.act(number, act, x);
    }

    static void ran(Asked x, int... bodies) {
        x.count(6).is(bodies.length);
        for (int i = 0; i < bodies.length; i++) x.trace(i).is(bodies[i]);
        x.trace(bodies.length).is(-1);
    }

    static void bodies() {
        Due.stands("LOADS are kept by call as BODIES 0 .. 49, of KINDS:", 27, 36);
        Asked x = new Asked();
        for (int i = 0; i < 50; i++) {
            x.count(5).is(i);
            x.act(i, CLINGS, 1).is(0);
            x.body(LOAD).is(i);
            x.act(i, CLINGS, 1).is(1 + i);
        }
        x.body(LOAD).is(-3);
        x.count(5).is(50);
        x.act(50, CLINGS, 1).is(0);
        x.act(49, CLINGS, 1).is(50);
        x.keep(0, 49).is(1);
        x.keep(0, 50).is(-1);
    }

    static void kinds() {
        Due.stands("0 LOAD; 1 SPREAD under LOAD; 2 LUMPED under LOAD; 3 SINGLE under LUMPED; 4 RUBBER under LOAD; 5 SHOES under SPREAD; 6 CHANGING under RUBBER; 7 EMPTY under LOAD.", 27, 35);
        String[] under = {"0", "01", "02", "023", "04", "015", "046", "07"};
        for (int kind = 0; kind < 8; kind++) {
            Asked x = new Asked();
            x.body(kind).is(0);
            x.keep(0, 0);
            for (int k = 0; k < 8; k++) x.taken(0, k).is(under[kind].indexOf('0' + k) >= 0 ? kind : -12);
        }
    }

    static void acts() {
        Due.stands("ACTS with x (an int that wraps): 0 clings, 1 shakes, 2 hops, 3 tells; n its number.", 28);
        int[] due = {5 + 3, (5 + 3) * 2, 5 ^ 3, (5 + 3) * 2 - (1 ^ 3)};
        for (int k = 0; k < 4; k++) act(LOAD, 3, k, 5).is(due[k]);
        act(LOAD, 0, CLINGS, MAX).is(MAX);
        act(LOAD, 1, CLINGS, MAX).is(MIN);
        act(LOAD, 49, CLINGS, MIN).is(MIN + 49);
        act(LOAD, 49, CLINGS, -49).is(0);
    }

    static void clings() {
        Due.stands("BODIES of acts: CLINGS (an interface of LOAD): 1 clings: x + n.", 28);
        act(LOAD, 0, CLINGS, 0).is(0);
        ran(act(LOAD, 2, CLINGS, MAX - 2).is(MAX), 1);
        ran(act(LOAD, 2, CLINGS, MAX - 1).is(MIN), 1);
    }

    static void shakes() {
        Due.stands("LOAD: 10 shakes: clings(x) * 2.", 28);
        ran(act(LOAD, 0, SHAKES, HALF - 1).is(MAX - 1), 10, 1);
        ran(act(LOAD, 0, SHAKES, HALF).is(MIN), 10, 1);
        act(LOAD, 1, SHAKES, HALF - 1).is(MIN);
        act(LOAD, 0, SHAKES, -HALF).is(MIN);
        act(LOAD, 0, SHAKES, -HALF - 1).is(MAX - 1);
    }

    static void hops() {
        Due.stands("11 hops: x ^ n.", 28);
        ran(act(LOAD, 5, HOPS, 6).is(3), 11);
        act(LOAD, 49, HOPS, 49).is(0);
        act(LOAD, 49, HOPS, -1).is(-50);
        act(LOAD, 1, HOPS, MIN).is(MIN + 1);
    }

    static void tells() {
        Due.stands("TELLS (of LOAD): 2 tells: shakes(x) - hops(1).", 28);
        ran(act(LOAD, 3, TELLS, 5).is(16 - 2), 2, 10, 1, 11);
        act(LOAD, 0, TELLS, HALF).is(MAX);
        act(LOAD, 1, TELLS, 5).is(12);
    }

    static void spread() {
        Due.stands("SPREAD: 20 clings: super.clings(x) + 3.", 28);
        ran(act(SPREAD, 0, CLINGS, MAX - 3).is(MAX), 20, 1);
        ran(act(SPREAD, 0, CLINGS, MAX - 2).is(MIN), 20, 1);
        ran(act(SPREAD, 2, SHAKES, 5).is(20), 10, 20, 1);
    }

    static void lumped() {
        Due.stands("LUMPED: 30 shakes: -super.shakes(x).", 28);
        ran(act(LUMPED, 2, SHAKES, 5).is(-14), 30, 10, 1);
        act(LUMPED, 0, SHAKES, HALF).is(MIN);
        act(LUMPED, 0, SHAKES, 0).is(0);
        ran(act(LUMPED, 2, TELLS, 5).is(-14 - 3), 2, 30, 10, 1, 11);
    }

    static void singleHops() {
        Due.stands("SINGLE: 40 hops: super.hops(x) * 3.", 28);
        ran(act(SINGLE, 2, HOPS, 5).is(21), 40, 11);
        act(SINGLE, 0, HOPS, MAX).is(MAX - 2);
        act(SINGLE, 0, HOPS, MIN).is(MIN);
    }

    static void singleShakes() {
        Due.stands("41 shakes: super.shakes(x + 1).", 28);
        ran(act(SINGLE, 2, SHAKES, 5).is(-16), 41, 30, 10, 1);
        act(SINGLE, 1, SHAKES, MAX).is(-2);
        ran(act(SINGLE, 2, TELLS, 5).is(-16 - 9), 2, 41, 30, 10, 1, 40, 11);
    }

    static void rubber() {
        Due.stands("RUBBER: 50 hops: super.hops(x) - clings(2).", 28);
        ran(act(RUBBER, 3, HOPS, 5).is(6 - 5), 50, 11, 1);
        act(RUBBER, 0, HOPS, MIN + 1).is(MAX);
        act(RUBBER, 0, HOPS, MIN + 2).is(MIN);
    }

    static void shoes() {
        Due.stands("SHOES: 60 tells: super.tells(x) ^ 5.", 28);
        ran(act(SHOES, 2, TELLS, 5).is((20 - 3) ^ 5), 60, 2, 10, 20, 1, 11);
        ran(act(SHOES, 2, CLINGS, 5).is(10), 20, 1);
    }

    static void changing() {
        Due.stands("CHANGING: 70 clings: super.clings(x) * 2.", 28);
        ran(act(CHANGING, 2, CLINGS, 5).is(14), 70, 1);
        act(CHANGING, 0, CLINGS, HALF - 1).is(MAX - 1);
        act(CHANGING, 0, CLINGS, HALF).is(MIN);
        ran(act(CHANGING, 2, HOPS, 5).is(7 - 8), 50, 11, 70, 1);
    }

    static void emptyShakes() {
        Due.stands("EMPTY: 80 shakes: super.shakes(x) + hops(2).", 28);
        ran(act(EMPTY, 3, SHAKES, 5).is(16 + 1), 80, 10, 1, 11);
        act(EMPTY, 0, SHAKES, HALF - 2).is(MAX - 1);
        act(EMPTY, 0, SHAKES, HALF - 1).is(MIN);
    }

    static void emptyTells() {
        Due.stands("81 tells: super.tells(x) - 1.", 28);
        ran(act(EMPTY, 3, TELLS, 5).is(17 - 2 - 1), 81, 2, 80, 10, 1, 11, 11);
        act(EMPTY, 0, TELLS, HALF).is(MIN);
    }

    static void ownOrAbove() {
        Due.stands("clings(..) and so on: the body of its own KIND, or of the next KIND above that has one;", 28);
        // of each KIND and act the first body: its own, or that of one, two or three above
        int[][] first = {{1, 10, 11, 2}, {20, 10, 11, 2}, {1, 30, 11, 2}, {1, 41, 40, 2}, {1, 10, 50, 2}, {20, 10, 11, 60},
            {70, 10, 50, 2}, {1, 80, 11, 81}};
        for (int kind = 0; kind < 8; kind++) {
            for (int act = 0; act < 4; act++) act(kind, 0, act, 5).trace(0).is(first[kind][act]);
        }
        // what an act above calls is the own KIND's again
        ran(act(CHANGING, 2, TELLS, 5).is(28 - (3 - 8)), 2, 10, 70, 1, 50, 11, 70, 1);
        ran(act(SINGLE, 0, TELLS, 0).is(-2 - 3), 2, 41, 30, 10, 1, 40, 11);
    }

    static void fromAbove() {
        Due.stands("super: from the KIND above the body's on.", 28);
        // not from the KIND above its own: SINGLE's super of LUMPED's 30 is LOAD's 10, SHOES' super of SPREAD's 20 CLINGS' 1
        ran(act(SINGLE, 0, SHAKES, 5).is(-12), 41, 30, 10, 1);
        ran(act(SHOES, 0, CLINGS, 5).is(8), 20, 1);
        ran(act(CHANGING, 0, HOPS, 5).is(5 - 4), 50, 11, 70, 1);
        ran(act(SHOES, 0, TELLS, 5).is((16 - 1) ^ 5), 60, 2, 10, 20, 1, 11);
    }

    static void trace() {
        Due.stands("THE TRACE: numbers of the bodies that ran in the latest act(), as they began;", 28, 29, 36);
        Asked x = new Asked();
        ran(x);
        x.body(CHANGING);
        ran(x);
        x.act(0, TELLS, 5);
        ran(x, 2, 10, 70, 1, 50, 11, 70, 1);
        x.act(0, SHAKES, 5);
        ran(x, 10, 70, 1);
        x.body(LOAD);
        x.act(1, CLINGS, 5);
        ran(x, 1);
    }

    static void traceKept() {
        Due.stands("the first 24 are kept.", 29, 36);
        // no act of any KIND runs more than eight
        Asked x = act(CHANGING, 0, TELLS, 5);
        x.count(6).is(8);
        for (int i = 0; i < 8; i++) Due.holds("trace(" + i + ") is kept", x.trace(i).answer() > 0);
        int[] none = {8, 22, 23, 24, 25};
        for (int i : none) x.trace(i).is(-1);
    }

    static void body() {
        Due.stands("A LOAD of a KIND (0 .. 7) is kept: its number. BAD, FULL.", 27);
        Asked x = new Asked();
        int[] bad = {-1, 8, MIN, MAX};
        for (int kind : bad) x.body(kind).is(-1);
        x.count(5).is(0);
        for (int kind = 0; kind < 8; kind++) x.body(kind).is(kind);
        for (int i = 8; i < 50; i++) x.body(0).is(i);
        x.body(0).is(-3);
        x.body(7).is(-3);
        for (int kind : bad) x.body(kind).is(-1);
        x.count(5).is(50);
        x.act(7, TELLS, 0).is(14 + 5 - 6 - 1);
    }

    static void act() {
        Due.stands("An ACT (0 .. 3) of a LOAD with x.", 28);
        Asked x = new Asked();
        x.body(LOAD);
        x.body(SPREAD);
        x.act(1, -1, 5).is(0);
        x.act(1, 0, 5).is(9);
        x.act(1, 3, 5).is(18);
        x.act(1, 4, 5).is(0);
        x.act(0, 0, 5).is(5);
        x.act(-1, 0, 5).is(0);
        x.act(2, 0, 5).is(0);
    }

    static void actOfNone() {
        Due.stands("0, and no TRACE then: no such LOAD, ACT.", 28, 29, 36);
        int[][] none = {{2, 0}, {-1, 0}, {49, 0}, {50, 0}, {MIN, 0}, {MAX, 0}, {0, -1}, {0, 4}, {0, MIN}, {0, MAX}};
        for (int[] n : none) {
            Asked x = new Asked();
            x.body(LOAD);
            x.body(EMPTY);
            x.act(1, TELLS, 7);
            x.count(6).is(7);
            x.act(n[0], n[1], 7).is(0);
            ran(x);
            x.count(5).is(2);
        }
        new Asked().act(0, 0, 7).is(0);
    }

    static void traceBody() {
        Due.stands("THE TRACE's i-th body. BAD.", 29);
        Asked x = new Asked();
        x.trace(0).is(-1);
        x.body(LOAD);
        x.act(0, TELLS, 0);
        int[] ran = {2, 10, 1, 11};
        for (int i = 0; i < 4; i++) x.trace(i).is(ran[i]);
        int[] bad = {-1, 4, 24, MIN, MAX};
        for (int i : bad) x.trace(i).is(-1);
    }
}
