/** A new object that remembers its calls, so that a wrong answer is told with the run of calls that led to it. */
final class Asked {
    private static final int MOST_CALLS = 512, TOLD_CALLS = 12;

    private final MachineWalks machine = new MachineWalks();
    private final String[] calls = new String[MOST_CALLS];
    private int many;
    private long answer;

    private Asked answered(String name, long its, long... told) {
        StringBuilder call = new StringBuilder(name).append('(');
        for (int i = 0; i < told.length; i++) call.append(i > 0 ? ", " : "").append(told[i]);
        if (many >= MOST_CALLS) throw new IllegalStateException("an object is used for 512 calls");
        calls[many++] = call.append(')').toString();
        answer = its;
        return this;
    }

    /** The latest call's answer is this. */
    Asked is(long due) {
        StringBuilder run = new StringBuilder();
        if (many > TOLD_CALLS) run.append(".. ").append(many - TOLD_CALLS).append(" calls ..; ");
        for (int i = Math.max(0, many - TOLD_CALLS); i < many; i++) run.append(i + 1 < many ? calls[i] + "; " : calls[i]);
        Due.due(run.toString(), answer, due);
        return this;
    }

    long answer() {
        return answer;
    }

    int calls() {
        return many;
    }

    Asked lump(int dw, int ah) {
        return answered("lump", machine.lump(dw, ah), dw, ah);
    }

    Asked lumps(int shelf, int i, int n) {
        return answered("lumps", machine.lumps(shelf, i, n), shelf, i, n);
    }

    Asked mend(int lump, int what, int v) {
        return answered("mend", machine.mend(lump, what, v), lump, what, v);
    }

    Asked of(int lump, int what) {
        return answered("of", machine.of(lump, what), lump, what);
    }

    Asked counter(int wa) {
        return answered("counter", machine.counter(wa), wa);
    }

    Asked set(int what, int v) {
        return answered("set", machine.set(what, v), what, v);
    }

    Asked floor(int grip, int xy) {
        return answered("floor", machine.floor(grip, xy), grip, xy);
    }

    Asked load(int what) {
        return answered("load", machine.load(what), what);
    }

    Asked shake(int pace) {
        return answered("shake", machine.shake(pace), pace);
    }

    Asked feed(int n, int v) {
        return answered("feed", machine.feed(n, v), n, v);
    }

    /** The bytes of a text come to the tape, by fours as long as there are four. */
    Asked feed(String text) {
        for (int i = 0; i < text.length(); i += 4) {
            int n = Math.min(4, text.length() - i);
            int v = 0;
            for (int k = 0; k < n; k++) v |= text.charAt(i + k) << 8 * k;
            feed(n, v);
        }
        return this;
    }

    Asked law() {
        return answered("law", machine.law());
    }

    Asked law(String text) {
        return feed(text).law();
    }

    Asked water(int law) {
        return answered("water", machine.water(law), law);
    }

    Asked run(int rf, int gn, int seed, int deed) {
        return answered("run", machine.run(rf, gn, seed, deed), rf, gn, seed, deed);
    }

    Asked led(int t, int what) {
        return answered("led", machine.led(t, what), t, what);
    }

    Asked did(int what) {
        return answered("did", machine.did(what), what);
    }

    Asked fear(int what) {
        return answered("fear", machine.fear(what), what);
    }

    Asked may(int floor, int goal) {
        return answered("may", machine.may(floor, goal), floor, goal);
    }

    Asked weight(int what) {
        return answered("weight", machine.weight(what), what);
    }

    Asked spread(int n, int seed, int what) {
        return answered("spread", machine.spread(n, seed, what), n, seed, what);
    }

    Asked loads(int rf, int gn, int seed, int what) {
        return answered("loads", machine.loads(rf, gn, seed, what), rf, gn, seed, what);
    }

    Asked best(int floor, int goal, int seed) {
        return answered("best", machine.best(floor, goal, seed), floor, goal, seed);
    }

    Asked never(int rule, int goal, int v) {
        return answered("never", machine.never(rule, goal, v), rule, goal, v);
    }

    Asked beside(int pace, int m) {
        return answered("beside", machine.beside(pace, m), pace, m);
    }

    Asked undo() {
        return answered("undo", machine.undo());
    }

    Asked redo() {
        return answered("redo", machine.redo());
    }

    Asked body(int kind) {
        return answered("body", machine.body(kind), kind);
    }

    Asked act(int body, int act, int x) {
        return answered("act", machine.act(body, act, x), body, act, x);
    }

    Asked trace(int i) {
        return answered("trace", machine.trace(i), i);
    }

    Asked keep(int shelf, int body) {
        return answered("keep", machine.keep(shelf, body), shelf, body);
    }

    Asked row(int shelf, int sort, int n) {
        return answered("row", machine.row(shelf, sort, n), shelf, sort, n);
    }

    /** A row that is as long as what is put in. */
    Asked rowOf(int shelf, int sort, long... elements) {
        row(shelf, sort, elements.length);
        for (int i = 0; i < elements.length; i++) put(shelf, i, elements[i]);
        return this;
    }

    Asked put(int shelf, int i, long v) {
        return answered("put", machine.put(shelf, i, v), shelf, i, v);
    }

    Asked element(int shelf, int i) {
        return answered("element", machine.element(shelf, i), shelf, i);
    }

    Asked shift(int shelf, int i, int other, int j, int n) {
        return answered("shift", machine.shift(shelf, i, other, j, n), shelf, i, other, j, n);
    }

    Asked taken(int shelf, int k) {
        return answered("taken", machine.taken(shelf, k), shelf, k);
    }

    Asked count(int what) {
        return answered("count", machine.count(what), what);
    }
}
