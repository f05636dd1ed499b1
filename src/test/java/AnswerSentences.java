import java.util.ArrayList;
import java.util.List;
import java.util.function.Consumer;
import java.util.function.Supplier;

/** The paragraph on answers behind Terms 4, and what is said of the whole object: each method stands for one promise. */
final class AnswerSentences {
    private static final int MIN = Integer.MIN_VALUE, MAX = Integer.MAX_VALUE, VOID = -2000000000;
    private static final long NONE = Long.MIN_VALUE;

    private AnswerSentences() {
    }

    static void all() {
        answers();
        voids();
        badAheadOfFull();
        badAheadOfState();
        badAheadOfNot();
        badAheadOfRefusals();
        refusalsInOrder();
        lumpAndFloorAnswers();
        lumpsChangeNothing();
        machineChangesNothing();
        lawsChangeNothing();
        runsChangeNothing();
        thoughtsChangeNothing();
        changesChangeNothing();
        loadsChangeNothing();
        shelvesChangeNothing();
        ownMemory();
        calls512();
    }

    /** Something of everything: three LUMPS, a change undone, laws, a tape, a run, loads, a trace, and on each shelf another thing. */
    static Asked some() {
        Asked x = new Asked().lump(1240, 2).lump(3060, 31).lump(520, 75);
        x.counter(3007);
        int[] told = {400, 90, 1, 3, 50};
        for (int what = 0; what < 5; what++) x.set(what, told[what]);
        x.floor(120, 907).floor(60, 1005);
        x.law("t<5?0;p+60");
        x.law("w/9+1");
        x.water(1);
        x.feed("1+");
        x.run(0, 300020, 7, 0);
        x.mend(0, 0, 13).mend(1, 1, 5).mend(2, 2, 3).undo();
        x.body(0).body(6).body(7).act(1, 3, 5);
        x.keep(1, 1);
        for (int sort = 0; sort < 4; sort++) x.rowOf(sort + 2, sort, 3, 1, 4, 1, 5);
        return x;
    }

    /** As much of everything as there can be. */
    static Asked full() {
        Asked x = new Asked();
        for (int i = 0; i < 12; i++) x.lump(1020 + i, 10 * i + 3);
        for (int i = 0; i < 4; i++) x.floor(100 + i, 909 + i);
        for (int i = 0; i < 4; i++) x.law("20" + i);
        for (int i = 0; i < 30; i++) x.feed(4, 0x2b312b31);
        for (int k = 1; k <= 40; k++) x.mend(0, 1, k);
        for (int i = 0; i < 50; i++) x.body(i % 8);
        x.act(46, 3, 5);
        x.run(33, 200200, 5, 0);
        x.rowOf(0, 0, 5, 6, 7, 8, 9);
        x.rowOf(3, 2, 3, 1, 4, 1, 5);
        return x;
    }

    /** All that can be asked, and then what only calls that change it can show. */
    static List<Long> seen(Asked x) {
        List<Long> seen = new ArrayList<>();
        for (int what = 0; what < 7; what++) seen.add(x.count(what).answer());
        for (int i = 0; i < 12; i++) {
            for (int what = 0; what < 4; what++) seen.add(x.of(i, what).answer());
        }
        for (int what = 0; what < 5; what++) seen.add(x.load(what).answer());
        for (int what = 0; what < 4; what++) seen.add(x.led(-1, what).answer());
        for (int what = 0; what < 5; what++) seen.add(x.did(what).answer());
        for (int t = 0; t < 20; t += 6) {
            for (int what = 0; what < 5; what++) seen.add(x.led(t, what).answer());
        }
        for (int i = 0; i < 8; i++) seen.add(x.trace(i).answer());
        for (int s = 0; s < 6; s++) {
            seen.add(x.taken(s, 0).answer());
            for (int i = 0; i < 6; i++) seen.add(x.element(s, i).answer());
        }
        for (int f = 0; f < 4; f++) {
            seen.add(x.may(f, 1200).answer());
            x.run(f, 300030, 3, 0);
            for (int what = 3; what < 5; what++) seen.add(x.led(29, what).answer());
        }
        for (int r = 0; r < 4; r++) seen.add(x.run(10 * r, 300007, 3, 0).answer());
        seen.add(x.did(1).answer());
        seen.add(x.law().answer());
        for (int b = 0; b < 50; b += 7) seen.add(x.act(b, 3, 9).answer());
        seen.add(x.water(-1).answer());
        int[] first = {310, 100, 0, 0, 9999};
        for (int what = 0; what < 5; what++) seen.add(x.set(what, first[what]).answer());
        for (int k = 0; k < 3; k++) seen.add(x.redo().answer());
        seen.add(x.load(1).answer());
        for (int k = 0; k < 42; k++) seen.add(x.undo().answer());
        for (int i = 0; i < 3; i++) {
            for (int what = 0; what < 3; what++) seen.add(x.of(i, what).answer());
        }
        seen.add(x.counter(0).answer());
        return seen;
    }

    /** Two alike, one with the refused call between: all that can be seen of them behind it is alike. */
    static void refused(Supplier<Asked> made, long due, Consumer<Asked> call) {
        Asked x = made.get();
        call.accept(x);
        x.is(due);
        Due.holds("behind it all is as before", seen(x).equals(seen(made.get())));
    }

    static void answers() {
        Due.stands("Answers, of several the one named first: BAD (-1): no such number, or it is not as said; NOT (-2): as told; FULL (-3); STATE (-5): as told; -11 to -14.",
            2, 11, 16, 24, 25, 31, 32);
        Due.due("BAD", MachineWalks.BAD, -1);
        Due.due("NOT", MachineWalks.NOT, -2);
        Due.due("FULL", MachineWalks.FULL, -3);
        Due.due("STATE", MachineWalks.STATE, -5);
        Asked x = new Asked();
        x.lump(0, 0).is(-1);
        x.undo().is(-5);
        x.put(0, 0, 0).is(-11);
        x.body(0);
        x.keep(0, 0);
        x.put(0, 0, 0).is(-12);
        x.row(0, 0, 0);
        x.put(0, 0, 0).is(-13);
        x.row(0, 0, -1).is(-14);
        x.lump(101, 0);
        x.beside(60, 0).is(-2);
        x.feed("1".repeat(120));
        x.feed(1, 0).is(-3);
    }

    static void voids() {
        Due.stands("VOID is -2000000000.", 9, 13, 15, 16);
        Due.due("VOID", MachineWalks.VOID, VOID);
        Asked x = new Asked();
        x.load(5).is(VOID);
        x.water(0).is(VOID);
        x.led(-1, 0).is(VOID);
        x.did(0).is(VOID);
    }

    static void badAheadOfFull() {
        Due.stands("of several the one named first: BAD (-1)", 2, 8, 11, 27);
        Asked x = full();
        x.lump(100, 0).is(-3);
        x.lump(99, 0).is(-1);
        x.lump(100, 120).is(-1);
        x.floor(1, 909).is(-3);
        x.floor(0, 909).is(-1);
        x.floor(1, 1900).is(-1);
        x.feed(1, 0).is(-3);
        x.feed(0, 0).is(-1);
        x.feed(5, 0).is(-1);
        x.body(0).is(-3);
        x.body(8).is(-1);
        x.body(-1).is(-1);
    }

    static void badAheadOfState() {
        Due.stands("of several the one named first: BAD (-1)", 22);
        Asked x = new Asked();
        x.best(0, 100, 0).is(-1);
        x.floor(1, 909);
        x.best(0, 100, 0).is(-5);
        x.best(1, 100, 0).is(-1);
        x.best(0, 99, 0).is(-1);
    }

    static void badAheadOfNot() {
        Due.stands("of several the one named first: BAD (-1)", 24);
        Asked x = new Asked().lump(101, 0);
        x.beside(60, 0).is(-2);
        x.beside(59, 0).is(-1);
        x.beside(60, -1).is(-1);
    }

    static void badAheadOfRefusals() {
        Due.stands("of several the one named first: BAD (-1)", 3, 31, 32, 34, 35);
        Asked x = some();
        // a LOAD on SHELF 1, shorts on 3; nothing on 0
        x.lumps(1, 0, 1).is(-12);
        x.lumps(1, 0, 13).is(-1);
        x.lumps(3, 0, 0).is(-1);
        x.row(0, 0, -1).is(-14);
        x.row(6, 0, -1).is(-1);
        x.row(0, 5, -1).is(-1);
        x.put(6, -1, 0).is(-1);
        x.shift(0, 0, 6, 0, 1).is(-1);
        x.shift(6, 0, 0, 0, 1).is(-1);
        x.shift(1, 0, -1, 0, 1).is(-1);
        x.taken(0, 8).is(-1);
        x.taken(1, 8).is(-1);
        x.taken(3, -1).is(-1);
    }

    static void refusalsInOrder() {
        Due.stands("of several the one named first:", 32, 34);
        Asked x = some();
        x.put(0, -1, 0).is(-11);
        x.put(1, -1, 0).is(-12);
        x.put(2, -1, 0).is(-13);
        x.shift(0, 0, 1, 0, 1).is(-11);
        x.shift(1, 0, 0, 0, 1).is(-11);
        x.shift(2, -1, 0, 0, 1).is(-11);
        x.shift(1, 0, 2, -1, 1).is(-12);
        x.shift(2, 0, 3, 0, -1).is(-12);
        x.shift(2, 99, 3, 0, 1).is(-12);
        x.shift(2, 99, 2, 0, 1).is(-13);
    }

    static void lumpAndFloorAnswers() {
        Due.stands("BAD, FULL.", 2, 8);
        Asked x = new Asked();
        for (int i = 0; i < 12; i++) x.lump(0, 0).is(-1).lump(100, 0).is(i);
        x.lump(100, 0).is(-3);
        for (int i = 0; i < 4; i++) x.floor(0, 0).is(-1).floor(1, 0).is(i);
        x.floor(1, 0).is(-3);
    }

    private static final String NOTHING = "What is answered so changes nothing.";

    static void lumpsChangeNothing() {
        Due.stands(NOTHING, 2, 3, 4, 5, 6);
        refused(AnswerSentences::some, -1, x -> x.lump(99, 0));
        refused(AnswerSentences::some, -1, x -> x.lump(100, 120));
        refused(AnswerSentences::full, -3, x -> x.lump(100, 0));
        refused(AnswerSentences::some, -1, x -> x.lumps(2, 0, 13));
        refused(AnswerSentences::some, -1, x -> x.lumps(6, 0, 1));
        refused(AnswerSentences::some, -12, x -> x.lumps(1, 0, 1));
        refused(AnswerSentences::some, -12, x -> x.lumps(3, 0, 1));
        refused(AnswerSentences::some, 0, x -> x.lumps(0, 0, 1));
        refused(AnswerSentences::some, 0, x -> x.lumps(2, 2, 1));
        refused(AnswerSentences::full, 0, x -> x.lumps(0, 0, 1));
        refused(AnswerSentences::some, -1, x -> x.mend(0, 0, 51));
        refused(AnswerSentences::some, -1, x -> x.mend(0, 1, -1));
        refused(AnswerSentences::some, -1, x -> x.mend(0, 2, 12));
        refused(AnswerSentences::some, -1, x -> x.mend(0, 3, 1));
        refused(AnswerSentences::some, -1, x -> x.mend(0, 4, 1));
        refused(AnswerSentences::some, -1, x -> x.mend(3, 0, 1));
        refused(AnswerSentences::some, -1, x -> x.of(3, 0));
        refused(AnswerSentences::some, -1, x -> x.counter(12));
        refused(AnswerSentences::some, -1, x -> x.counter(10000));
    }

    static void machineChangesNothing() {
        Due.stands(NOTHING, 7, 8, 9, 10);
        int[] most = {900, 9999, 9, 50, 9999};
        int[] least = {100, 1, 0, 0, 1};
        for (int k = 0; k < 5; k++) {
            int what = k;
            refused(AnswerSentences::some, -1, x -> x.set(what, most[what] + 1));
            refused(AnswerSentences::some, -1, x -> x.set(what, least[what] - 1));
        }
        refused(AnswerSentences::some, -1, x -> x.set(5, 100));
        refused(AnswerSentences::some, -1, x -> x.floor(0, 909));
        refused(AnswerSentences::some, -1, x -> x.floor(1, 19));
        refused(AnswerSentences::full, -3, x -> x.floor(1, 909));
        refused(AnswerSentences::some, VOID, x -> x.load(5));
        refused(AnswerSentences::some, -1, x -> x.shake(1201));
    }

    static void lawsChangeNothing() {
        Due.stands(NOTHING, 11, 12, 13);
        refused(AnswerSentences::some, -1, x -> x.feed(0, '1'));
        refused(AnswerSentences::some, -1, x -> x.feed(5, '1'));
        refused(AnswerSentences::full, -3, x -> x.feed(1, '1'));
        refused(() -> new Asked().feed("1".repeat(118)), -3, x -> x.feed(3, 0x313131));
        refused(AnswerSentences::full, -3, x -> x.law());
        refused(AnswerSentences::some, VOID, x -> x.water(2));
        refused(AnswerSentences::some, VOID, x -> x.water(-2));
    }

    static void runsChangeNothing() {
        Due.stands(NOTHING, 14, 15, 16);
        refused(AnswerSentences::some, -1, x -> x.run(2, 300020, 7, 1));
        refused(AnswerSentences::some, -1, x -> x.run(20, 300020, 7, 1));
        refused(AnswerSentences::some, -1, x -> x.run(0, 99020, 7, 1));
        refused(AnswerSentences::some, -1, x -> x.run(0, 300000, 7, 1));
        refused(AnswerSentences::some, -1, x -> x.run(0, 300201, 7, 1));
        refused(AnswerSentences::some, -1, x -> x.run(0, 300020, 7, 2));
        refused(AnswerSentences::some, VOID, x -> x.led(20, 0));
        refused(AnswerSentences::some, VOID, x -> x.led(-1, 4));
        refused(AnswerSentences::some, VOID, x -> x.did(5));
    }

    static void thoughtsChangeNothing() {
        Due.stands(NOTHING, 17, 18, 19, 20, 21, 22, 23, 24);
        refused(AnswerSentences::some, -1, x -> x.fear(2));
        refused(AnswerSentences::some, -1, x -> x.may(2, 300));
        refused(AnswerSentences::some, -1, x -> x.weight(2));
        refused(AnswerSentences::some, -1, x -> x.spread(51, 7, 0));
        refused(AnswerSentences::some, -1, x -> x.spread(5, 7, 3));
        refused(AnswerSentences::some, -1, x -> x.loads(0, 300051, 7, 0));
        refused(AnswerSentences::some, -1, x -> x.loads(0, 300050, 7, 4));
        refused(AnswerSentences::some, -1, x -> x.best(2, 300, 7));
        refused(Asked::new, -1, x -> x.best(0, 300, 7));
        refused(() -> new Asked().floor(1, 909), -5, x -> x.best(0, 300, 7));
        refused(AnswerSentences::some, -1, x -> x.never(2, 300, 0));
        refused(AnswerSentences::some, -1, x -> x.never(0, 300, 951));
        refused(AnswerSentences::some, -1, x -> x.beside(59, 0));
        refused(AnswerSentences::full, -2, x -> x.beside(60, 0));
    }

    static void changesChangeNothing() {
        Due.stands(NOTHING, 25, 26);
        refused(Asked::new, -5, x -> x.undo());
        refused(Asked::new, -5, x -> x.redo());
        refused(() -> new Asked().counter(100).undo(), -5, x -> x.undo());
        refused(() -> new Asked().counter(100).undo().redo(), -5, x -> x.redo());
        refused(AnswerSentences::full, -5, x -> x.redo());
    }

    static void loadsChangeNothing() {
        Due.stands(NOTHING, 27, 29, 36);
        refused(AnswerSentences::some, -1, x -> x.body(8));
        refused(AnswerSentences::some, -1, x -> x.body(-1));
        refused(AnswerSentences::full, -3, x -> x.body(0));
        refused(AnswerSentences::some, -1, x -> x.trace(8));
        refused(AnswerSentences::some, -1, x -> x.count(7));
    }

    static void shelvesChangeNothing() {
        Due.stands(NOTHING, 30, 31, 32, 33, 34, 35);
        refused(AnswerSentences::some, -1, x -> x.keep(2, 3));
        refused(AnswerSentences::some, -1, x -> x.keep(2, -2));
        refused(AnswerSentences::some, -1, x -> x.keep(6, 0));
        refused(AnswerSentences::some, -1, x -> x.row(2, 5, 1));
        refused(AnswerSentences::some, -1, x -> x.row(2, 0, 61));
        refused(AnswerSentences::some, -14, x -> x.row(2, 0, -1));
        refused(AnswerSentences::some, -1, x -> x.put(6, 0, 9));
        refused(AnswerSentences::some, -11, x -> x.put(0, 0, 9));
        refused(AnswerSentences::some, -12, x -> x.put(1, 0, 9));
        refused(AnswerSentences::some, -13, x -> x.put(2, 5, 9));
        refused(AnswerSentences::some, -13, x -> x.put(2, -1, 9));
        refused(AnswerSentences::some, NONE, x -> x.element(0, 0));
        refused(AnswerSentences::some, NONE, x -> x.element(2, 5));
        refused(AnswerSentences::some, -1, x -> x.shift(2, 0, 6, 0, 1));
        refused(AnswerSentences::some, -11, x -> x.shift(2, 0, 0, 0, 1));
        refused(AnswerSentences::some, -12, x -> x.shift(2, 0, 3, 1, 2));
        refused(AnswerSentences::some, -13, x -> x.shift(2, 0, 2, 1, 5));
        refused(AnswerSentences::some, -13, x -> x.shift(2, 0, 2, 1, -1));
        refused(AnswerSentences::some, -1, x -> x.taken(1, 8));
        refused(AnswerSentences::some, -11, x -> x.taken(0, 0));
        refused(AnswerSentences::some, -12, x -> x.taken(1, 7));
    }

    static void ownMemory() {
        Due.stands("All memory is the class's own.", 1);
        List<Long> alone = seen(some());
        Asked one = some();
        Asked other = full();
        List<Long> seenOfOther = seen(other);
        Due.holds("one is as if there were no other", seen(one).equals(alone));
        Due.holds("the other is as if there were no one", seen(full()).equals(seenOfOther));
        Asked empty = new Asked();
        for (int what = 0; what < 7; what++) empty.count(what).is(0);
    }

    static void calls512() {
        Due.stands("An object is used for at most 512 calls after it has been made;", 1);
        Asked x = new Asked();
        x.floor(1, 909);
        x.law("t*7%600");
        for (int i = 0; i < 12; i++) x.lump(5099, 10 * i);
        long first = x.loads(0, 100050, 5, 2).answer();
        while (x.calls() < 510) x.loads(0, 100050, 5, 2).is(first);
        x.run(0, 100200, 5, 1).is(199 * 7 % 600);
        x.count(0).is(12);
        Due.due("calls", x.calls(), 512);
    }
}
