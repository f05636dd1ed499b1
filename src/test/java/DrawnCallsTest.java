import java.util.Random;

/** Objects under drawn calls, each answer held against the Model's. Seeds are fixed: each run is the same. */
final class DrawnCallsTest {
    private static final int OBJECTS = 700, CALLS = 512;
    private static final int[] STRANGE = {Integer.MIN_VALUE, Integer.MAX_VALUE, -1, -2, -100, 1 << 20, 99999};

    private final Random draws;
    private final MachineWalks x = new MachineWalks();
    private final Model m = new Model();
    private String text = "";
    private int costly = 0;

    private DrawnCallsTest(long seed) {
        draws = new Random(seed);
    }

    public static void main(String[] args) {
        int objects = args.length > 0 ? Integer.parseInt(args[0]) : OBJECTS;
        int from = args.length > 1 ? Integer.parseInt(args[1]) : 0;
        for (int k = from; k < from + objects; k++) new DrawnCallsTest(k).calls(k);
        Due.end();
    }

    /** Mostly within least .. most, at times just outside or far from it. */
    private int any(int least, int most) {
        int d = draws.nextInt(40);
        if (d == 0) return STRANGE[draws.nextInt(STRANGE.length)];
        if (d == 1) return most + 1;
        if (d == 2) return least - 1;
        if (d == 3) return most;
        if (d == 4) return least;
        return least + draws.nextInt(most - least + 1);
    }

    private boolean once(int of) {
        return draws.nextInt(of) == 0;
    }

    private int seed() {
        return once(3) ? draws.nextInt() : draws.nextInt(20);
    }

    private void calls(int object) {
        for (int i = 0; i < CALLS; i++) {
            int f = draws.nextInt(38);
            if (i < 30) f = draws.nextInt(7) == 0 ? f : new int[] {0, 0, 7, 10, 10, 11, 36, 10}[draws.nextInt(8)];
            call(object + "." + i + " ", f);
        }
    }

    private void call(String at, int f) {
        if (f <= 9) machine(at, f);
        else if (f <= 16) lawsAndRuns(at, f);
        else if (f <= 26) thought(at, f);
        else shelvesAndActs(at, f);
    }

    private void machine(String at, int f) {
        int a;
        int b;
        int c;
        switch (f) {
            case 0 -> {
                a = once(9) ? any(0, 9999) : 100 * any(1, 50) + any(0, 99);
                b = any(0, 119);
                Due.due(at + "lump(" + a + ", " + b + ")", x.lump(a, b), m.lump(a, b));
            }
            case 1 -> {
                a = any(0, 5);
                b = any(0, 60);
                c = any(1, 12);
                Due.due(at + "lumps(" + a + ", " + b + ", " + c + ")", x.lumps(a, b, c), m.lumps(a, b, c));
            }
            case 2, 9 -> {
                a = any(0, 11);
                b = any(0, 2);
                c = b == 0 ? any(1, 50) : b == 1 ? any(0, 99) : any(0, 11);
                Due.due(at + "mend(" + a + ", " + b + ", " + c + ")", x.mend(a, b, c), m.mend(a, b, c));
            }
            case 3 -> {
                a = any(0, 11);
                b = any(0, 3);
                Due.due(at + "of(" + a + ", " + b + ")", x.of(a, b), m.of(a, b));
            }
            case 4 -> {
                a = once(4) ? any(0, 9999) : any(0, 99) * 100 + any(0, 11);
                Due.due(at + "counter(" + a + ")", x.counter(a), m.counter(a));
            }
            case 5 -> {
                a = any(0, 4);
                b = a == 0 ? any(100, 900) : a == 1 ? any(1, once(2) ? 9999 : 50) : a == 2 ? any(0, 9)
                    : a == 3 ? any(0, 50) : any(1, once(2) ? 9999 : 40);
                Due.due(at + "set(" + a + ", " + b + ")", x.set(a, b), m.set(a, b));
            }
            case 6 -> {
                a = any(0, 4);
                Due.due(at + "load(" + a + ")", x.load(a), m.load(a));
            }
            case 7 -> {
                a = once(2) ? any(1, 999) : any(1, 30);
                b = 100 * any(0, 18) + any(0, 18);
                Due.due(at + "floor(" + a + ", " + b + ")", x.floor(a, b), m.floor(a, b));
            }
            default -> {
                a = any(0, 1200);
                Due.due(at + "shake(" + a + ")", x.shake(a), m.shake(a));
            }
        }
    }

    private void lawsAndRuns(String at, int f) {
        int a;
        int b;
        switch (f) {
            case 10 -> feed(at);
            case 11 -> {
                if (text.isEmpty() || once(5)) {
                    Due.due(at + "law() " + m.tape, x.law(), m.law());
                    text = "";
                } else {
                    feed(at);
                }
            }
            case 12 -> {
                a = any(-1, 3);
                Due.due(at + "water(" + a + ")", x.water(a), m.water(a));
            }
            case 13, 14 -> {
                if (costly++ > 40) return;
                a = 10 * any(0, 3) + any(0, 3);
                b = 1000 * any(100, 1200) + any(1, once(2) ? 200 : 20);
                int s = seed();
                int d = once(20) ? any(0, 1) : draws.nextInt(2);
                Due.due(at + "run(" + a + ", " + b + ", " + s + ", " + d + ")", x.run(a, b, s, d), m.run(a, b, s, d));
                for (int w = 0; w < 5; w++) Due.due(at + "did(" + w + ") then", x.did(w), m.did(w));
            }
            case 15 -> {
                a = once(3) ? -1 : any(0, 199);
                b = any(0, 4);
                Due.due(at + "led(" + a + ", " + b + ")", x.led(a, b), m.led(a, b));
            }
            default -> {
                a = any(0, 4);
                Due.due(at + "did(" + a + ")", x.did(a), m.did(a));
            }
        }
    }

    private void feed(String at) {
        if (text.isEmpty()) text = lawText();
        int n = once(30) ? any(1, 4) : Math.min(text.length(), 4);
        int v = draws.nextInt();
        for (int k = 0; k < 4 && k < n && k < text.length(); k++) {
            v = v & ~(255 << 8 * k) | text.charAt(k) << 8 * k;
        }
        text = text.substring(Math.max(0, Math.min(n, text.length())));
        Due.due(at + "feed(" + n + ", " + v + ")", x.feed(n, v), m.feed(n, v));
    }

    private String lawText() {
        StringBuilder b = new StringBuilder();
        int lines = 1 + draws.nextInt(3);
        for (int k = 0; k < lines; k++) {
            if (k > 0) b.append(';');
            expression(b, 0, 0);
            if (once(2)) {
                b.append('?');
                expression(b, 0, 0);
            }
        }
        if (once(4)) {
            int at = draws.nextInt(b.length());
            String signs = "0123456789whptldgsc!-+*/%()<=>|&;? x\u00ff";
            b.setCharAt(at, signs.charAt(draws.nextInt(signs.length())));
        }
        if (once(12)) b.setLength(draws.nextInt(b.length() + 1));
        if (b.length() > 120) b.setLength(once(4) ? 120 : 1);
        return b.toString();
    }

    private void expression(StringBuilder b, int level, int open) {
        if (level == 5) {
            operand(b, open);
            return;
        }
        expression(b, level + 1, open);
        int most = level == 2 && !once(60) ? 1 : 3;
        for (int k = 0; k < most && once(5); k++) {
            String signs = new String[] {"|", "&", "<=>", "+-", "*/%"}[level];
            b.append(signs.charAt(draws.nextInt(signs.length())));
            expression(b, level + 1, open);
        }
    }

    private void operand(StringBuilder b, int open) {
        int d = draws.nextInt(10);
        if (open > 7 || d < 4) {
            b.append("whptldgsc".charAt(draws.nextInt(9)));
        } else if (d < 7) {
            b.append(once(20) ? draws.nextInt(100000) : draws.nextInt(new int[] {3, 30, 1300, 10000}[draws.nextInt(4)]));
        } else if (d < 9) {
            b.append(once(2) ? '!' : '-');
            operand(b, open + 1);
        } else {
            b.append('(');
            expression(b, 0, open + 1);
            b.append(')');
        }
    }

    private void thought(String at, int f) {
        int a = any(0, 3);
        int b = any(100, 1200);
        int c = any(0, 3);
        int s = seed();
        switch (f) {
            case 17 -> Due.due(at + "fear(" + a + ")", x.fear(a), m.fear(a));
            case 18 -> Due.due(at + "may(" + a + ", " + b + ")", x.may(a, b), m.may(a, b));
            case 19 -> {
                if (once(3)) Due.due(at + "weight(" + a % 2 + ")", x.weight(a % 2), m.weight(a % 2));
                else Due.due(at + "weight(" + (a + 2) + ")", x.weight(a + 2), m.weight(a + 2));
            }
            case 20 -> {
                b = any(1, 50);
                Due.due(at + "spread(" + b + ", " + s + ", " + c + ")", x.spread(b, s, c), m.spread(b, s, c));
            }
            case 21 -> {
                if (costly++ > 40) return;
                a = 10 * a + any(0, 3);
                b = 1000 * b + any(1, once(9) ? 50 : 5);
                Due.due(at + "loads(" + a + ", " + b + ", " + s + ", " + c + ")", x.loads(a, b, s, c), m.loads(a, b, s, c));
            }
            case 22 -> {
                if (costly++ > 40) return;
                Due.due(at + "best(" + a + ", " + b + ", " + s + ")", x.best(a, b, s), m.best(a, b, s));
            }
            case 23 -> {
                c = any(0, 950);
                Due.due(at + "never(" + a + ", " + b + ", " + c + ")", x.never(a, b, c), m.never(a, b, c));
            }
            case 24 -> {
                a = any(60, 1200);
                b = any(0, once(2) ? 9999 : 300);
                Due.due(at + "beside(" + a + ", " + b + ")", x.beside(a, b), m.beside(a, b));
            }
            case 25 -> Due.due(at + "undo()", x.undo(), m.undo());
            default -> Due.due(at + "redo()", x.redo(), m.redo());
        }
    }

    private void shelvesAndActs(String at, int f) {
        int a = any(0, 5);
        int b = any(0, 7);
        int c = any(0, 60);
        switch (f) {
            case 27 -> Due.due(at + "body(" + b + ")", x.body(b), m.body(b));
            case 28 -> {
                a = any(0, 30);
                b = any(0, 3);
                int v = once(2) ? draws.nextInt() : any(0, 9);
                Due.due(at + "act(" + a + ", " + b + ", " + v + ")", x.act(a, b, v), m.act(a, b, v));
                for (int i = -1; i < 9; i++) Due.due(at + "trace(" + i + ") then", x.trace(i), m.trace(i));
            }
            case 29 -> Due.due(at + "trace(" + c / 6 + ")", x.trace(c / 6), m.trace(c / 6));
            case 30 -> {
                b = any(-1, 20);
                Due.due(at + "keep(" + a + ", " + b + ")", x.keep(a, b), m.keep(a, b));
            }
            case 31 -> {
                b = once(2) ? 0 : any(0, 4);
                Due.due(at + "row(" + a + ", " + b + ", " + c + ")", x.row(a, b, c), m.row(a, b, c));
            }
            case 32, 37 -> put(at, a, c);
            case 33 -> Due.due(at + "element(" + a + ", " + c + ")", x.element(a, c), m.element(a, c));
            case 34 -> {
                b = once(2) ? a : any(0, 5);
                int i = once(4) ? 0 : any(0, 40);
                int n = any(0, 20);
                Due.due(at + "shift(" + a + ", " + c + ", " + b + ", " + i + ", " + n + ")",
                    x.shift(a, c, b, i, n), m.shift(a, c, b, i, n));
            }
            case 35 -> Due.due(at + "taken(" + a + ", " + b + ")", x.taken(a, b), m.taken(a, b));
            default -> {
                b = any(0, 6);
                Due.due(at + "count(" + b + ")", x.count(b), m.count(b));
            }
        }
    }

    /** Now a lone element, now a four that is likely a LUMP. */
    private void put(String at, int shelf, int i) {
        if (once(2)) {
            long v = once(2) ? draws.nextLong() : any(0, 60);
            Due.due(at + "put(" + shelf + ", " + i + ", " + v + ")", x.put(shelf, i, v), m.put(shelf, i, v));
            return;
        }
        long[] four = {any(1, 50), any(0, 99), any(0, 11), any(0, 9)};
        for (int k = 0; k < 4; k++) {
            int p = i / 4 * 4 + k;
            Due.due(at + "put(" + shelf + ", " + p + ", " + four[k] + ")", x.put(shelf, p, four[k]), m.put(shelf, p, four[k]));
        }
    }
}
