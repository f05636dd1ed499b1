import java.math.BigInteger;
import java.util.ArrayDeque;
import java.util.ArrayList;
import java.util.Arrays;
import java.util.Deque;
import java.util.List;

/**
 * The document once more, told in other ways than the program tells it: laws are worked out on their text,
 * faults found by a machine with a stack of brackets, acts are Java's own, rows are Java's own arrays.
 */
final class Model {
    static final int BAD = -1, NOT = -2, FULL = -3, STATE = -5, VOID = -2000000000;
    static final int[] C = {1000, 866, 500, 0, -500, -866, -1000, -866, -500, 0, 500, 866};

    record Lump(int dry, int wet, int angle, int holds) {
        Lump with(int what, int v) {
            return new Lump(what == 0 ? v : dry, what == 1 ? v : wet, what == 2 ? v : angle, holds);
        }
    }

    record Floor(int grip, int dx, int dy) {
    }

    record Change(int lump, int what, int was, int now) {
    }

    record Tick(int pace, int lopsided, int shake, int x, int y, boolean tumbles) {
    }

    List<Lump> lumps = new ArrayList<>();
    int counter = 0;
    final int[] told = {310, 100, 0, 0, 9999};
    final List<Floor> floors = new ArrayList<>();
    final List<String> laws = new ArrayList<>();
    StringBuilder tape = new StringBuilder();
    int water = -1;
    Ran latest = null;
    final List<Change> undos = new ArrayList<>();
    final List<Change> redos = new ArrayList<>();
    final List<Load> bodies = new ArrayList<>();
    static List<Integer> trace = new ArrayList<>();
    List<Integer> myTrace = new ArrayList<>();
    final Object[] shelves = new Object[6];

    // ---- lumps, the machine

    static boolean in(long v, long least, long most) {
        return least <= v && v <= most;
    }

    static boolean isLump(int dry, int wet, int angle, int holds) {
        return in(dry, 1, 50) && in(wet, 0, 99) && in(angle, 0, 11) && in(holds, 0, 9);
    }

    int lump(int dw, int ah) {
        Lump l = new Lump(Math.floorDiv(dw, 100), Math.floorMod(dw, 100), Math.floorDiv(ah, 10), Math.floorMod(ah, 10));
        if (!isLump(l.dry, l.wet, l.angle, l.holds)) return BAD;
        if (lumps.size() == 12) return FULL;
        lumps.add(l);
        return lumps.size() - 1;
    }

    int lumps(int shelf, int i, int n) {
        if (!in(shelf, 0, 5) || !in(n, 1, 12)) return BAD;
        if (shelves[shelf] == null) return 0;
        if (!(shelves[shelf] instanceof byte[] row)) return -12;
        int came = 0;
        for (long from = i; came < n && lumps.size() < 12; from += 4, came++) {
            if (from < 0 || from + 3 >= row.length) break;
            int f = (int) from;
            if (!isLump(row[f], row[f + 1], row[f + 2], row[f + 3])) break;
            lumps.add(new Lump(row[f], row[f + 1], row[f + 2], row[f + 3]));
        }
        return came;
    }

    int mend(int lump, int what, int v) {
        if (!in(lump, 0, lumps.size() - 1) || !in(what, 0, 2)) return BAD;
        if (!in(v, new int[] {1, 0, 0}[what], new int[] {50, 99, 11}[what])) return BAD;
        int was = of(lump, what);
        change(new Change(lump, what, was, v));
        return was;
    }

    int of(int lump, int what) {
        if (!in(lump, 0, lumps.size() - 1) || !in(what, 0, 3)) return BAD;
        Lump l = lumps.get(lump);
        return new int[] {l.dry, l.wet, l.angle, l.holds}[what];
    }

    int counter(int wa) {
        if (!in(wa, 0, 9999) || wa % 100 > 11) return BAD;
        int was = counter;
        change(new Change(-1, 0, was, wa));
        return was;
    }

    void change(Change c) {
        if (c.was == c.now) return;
        tell(c, c.now);
        undos.add(c);
        if (undos.size() > 40) undos.remove(0);
        redos.clear();
    }

    void tell(Change c, int v) {
        if (c.lump < 0) counter = v;
        else lumps.set(c.lump, lumps.get(c.lump).with(c.what, v));
    }

    int undo() {
        if (undos.isEmpty()) return STATE;
        Change c = undos.remove(undos.size() - 1);
        tell(c, c.was);
        redos.add(c);
        return undos.size();
    }

    int redo() {
        if (redos.isEmpty()) return STATE;
        Change c = redos.remove(redos.size() - 1);
        tell(c, c.now);
        undos.add(c);
        return redos.size();
    }

    int set(int what, int v) {
        if (!in(what, 0, 4)) return BAD;
        if (!in(v, new int[] {100, 1, 0, 0, 1}[what], new int[] {900, 9999, 9, 50, 9999}[what])) return BAD;
        int was = told[what];
        told[what] = v;
        return was;
    }

    int floor(int grip, int xy) {
        int dx = Math.floorDiv(xy, 100) - 9;
        int dy = Math.floorMod(xy, 100) - 9;
        if (!in(grip, 1, 999) || !in(dx, -9, 9) || !in(dy, -9, 9)) return BAD;
        if (floors.size() == 4) return FULL;
        floors.add(new Floor(grip, dx, dy));
        return floors.size() - 1;
    }

    static int along(List<Lump> lumps, int counter, int less) {
        BigInteger sum = BigInteger.ZERO;
        for (Lump l : lumps) sum = sum.add(cut(l.dry + l.wet, C[Math.floorMod(l.angle - less, 12)]));
        return sum.add(cut(counter / 100, C[Math.floorMod(counter % 100 - less, 12)])).intValueExact();
    }

    static BigInteger cut(int heavy, int c) {
        return BigInteger.valueOf(heavy).multiply(BigInteger.valueOf(c)).divide(BigInteger.TEN);
    }

    static int lopsided(List<Lump> lumps, int counter) {
        int[] sizes = {Math.abs(along(lumps, counter, 0)), Math.abs(along(lumps, counter, 3))};
        Arrays.sort(sizes);
        return (sizes[1] + sizes[0] * 3 / 8) / 100;
    }

    static int side(List<Lump> lumps, int counter) {
        long x = along(lumps, counter, 0);
        long y = along(lumps, counter, 3);
        int best = 11;
        for (int a = 11; a >= 0; a--) {
            if (x * C[a] + y * C[(a + 9) % 12] >= x * C[best] + y * C[(best + 9) % 12]) best = a;
        }
        return best;
    }

    static int wet(List<Lump> lumps) {
        return lumps.stream().mapToInt(Lump::wet).sum();
    }

    int load(int what) {
        return switch (what) {
            case 0 -> lopsided(lumps, counter);
            case 1 -> along(lumps, counter, 0);
            case 2 -> along(lumps, counter, 3);
            case 3 -> side(lumps, counter);
            case 4 -> wet(lumps);
            default -> VOID;
        };
    }

    int shakeOf(int lopsided, int pace) {
        BigInteger u = BigInteger.valueOf(pace / 10);
        BigInteger b = BigInteger.valueOf(told[0] / 10);
        BigInteger by = u.pow(2).subtract(b.pow(2)).abs().add(BigInteger.valueOf(told[1]));
        return BigInteger.valueOf(lopsided).multiply(u.pow(2)).divide(by).min(BigInteger.valueOf(99999)).intValueExact();
    }

    int shake(int pace) {
        return in(pace, 0, 1200) ? shakeOf(load(0), pace) : BAD;
    }

    // ---- laws, runs

    int feed(int n, int v) {
        if (!in(n, 1, 4)) return BAD;
        if (tape.length() + n > 120) return FULL;
        for (int k = 0; k < n; k++) tape.append((char) (byte) (v >> 8 * k & 255));
        for (int k = 0; k < tape.length(); k++) tape.setCharAt(k, (char) (tape.charAt(k) & 255));
        return tape.length();
    }

    int law() {
        if (laws.size() == 4) return FULL;
        String text = tape.toString();
        tape = new StringBuilder();
        int fault = fault(text);
        if (fault >= 0) return -100 - fault;
        laws.add(text);
        return laws.size() - 1;
    }

    /**
     * Byte by byte: a stack of what is open, '(' and the signs '!' '-' ahead of an O; by each bracket whether a
     * comparison has been; by the line whether a ? has been.
     */
    static int fault(String text) {
        Deque<Character> open = new ArrayDeque<>();
        Deque<Boolean> compared = new ArrayDeque<>();
        compared.push(false);
        boolean asked = false;
        boolean wants = true;
        int digits = 0;
        for (int i = 0; i < text.length(); i++) {
            char ch = text.charAt(i);
            boolean digit = ch >= '0' && ch <= '9';
            if (wants) {
                if (digit || "whptldgsc".indexOf(ch) >= 0) {
                    wants = false;
                    digits = digit ? 1 : 4;
                    while (!open.isEmpty() && open.peek() != '(') open.pop();
                } else if ((ch == '(' || ch == '!' || ch == '-') && open.size() < 6) {
                    open.push(ch);
                    if (ch == '(') compared.push(false);
                } else {
                    return i;
                }
                continue;
            }
            if (digit && digits < 4) {
                digits++;
                continue;
            }
            digits = 4;
            if (ch == ')' && compared.size() > 1) {
                open.pop();
                compared.pop();
                while (!open.isEmpty() && open.peek() != '(') open.pop();
                continue;
            }
            if ("<=>".indexOf(ch) >= 0 && !compared.peek()) {
                compared.pop();
                compared.push(true);
            } else if (ch == '|' || ch == '&') {
                compared.pop();
                compared.push(false);
            } else if (ch == '?' && compared.size() == 1 && !asked) {
                asked = true;
                compared.pop();
                compared.push(false);
            } else if (ch == ';' && compared.size() == 1) {
                asked = false;
                compared.pop();
                compared.push(false);
            } else if ("+-*/%".indexOf(ch) < 0) {
                return i;
            }
            wants = true;
        }
        return wants || compared.size() > 1 ? text.length() : -1;
    }

    /** Names in the order whptldgsc. */
    static int worth(String law, int... names) {
        for (String line : law.split(";")) {
            String[] two = line.split("\\?");
            if (two.length == 1) return split(two[0], 0, names);
            if (split(two[0], 0, names) != 0) return split(two[1], 0, names);
        }
        return 0;
    }

    static final String[] SIGNS = {"|", "&", "<=>", "+-", "*/%"};

    /** Splits at the last sign of the level that stands outside of brackets and behind an operand. */
    static int split(String e, int level, int[] names) {
        if (level == 5) return operand(e, names);
        int depth = 0;
        for (int i = e.length() - 1; i > 0; i--) {
            char ch = e.charAt(i);
            if (ch == ')') depth++;
            if (ch == '(') depth--;
            boolean behindOperand = "0123456789whptldgsc)".indexOf(e.charAt(i - 1)) >= 0;
            if (depth == 0 && behindOperand && SIGNS[level].indexOf(ch) >= 0) {
                return join(ch, split(e.substring(0, i), level, names), split(e.substring(i + 1), level + 1, names));
            }
        }
        return split(e, level + 1, names);
    }

    static int operand(String e, int[] names) {
        char ch = e.charAt(0);
        if (ch == '!') return operand(e.substring(1), names) == 0 ? 1 : 0;
        if (ch == '-') return (int) -(long) operand(e.substring(1), names);
        if (ch == '(') return split(e.substring(1, e.length() - 1), 0, names);
        if (Character.isDigit(ch)) return Integer.parseInt(e);
        return names["whptldgsc".indexOf(ch)];
    }

    static int join(char sign, long a, long b) {
        return switch (sign) {
            case '|' -> (a | b) != 0 ? 1 : 0;
            case '&' -> a != 0 && b != 0 ? 1 : 0;
            case '<' -> a < b ? 1 : 0;
            case '=' -> a == b ? 1 : 0;
            case '>' -> a > b ? 1 : 0;
            case '+' -> (int) (a + b);
            case '-' -> (int) (a - b);
            case '*' -> (int) (a * b);
            case '/' -> b == 0 ? 0 : (int) (a / b);
            default -> b == 0 ? 0 : (int) (a % b);
        };
    }

    int water(int law) {
        if (!in(law, -1, laws.size() - 1)) return VOID;
        int was = water;
        water = law;
        return was;
    }

    final class Ran {
        List<Lump> lie = new ArrayList<>(lumps);
        final List<Tick> ticks = new ArrayList<>();
        final List<Integer> starts = new ArrayList<>();
        int knocks, hops, anew, done = NOT, far, walked, stopped;
        int z;

        int draw() {
            z = (int) (z * 1103515245L + 12345L);
            return (int) ((z & 0xffffffffL) >> 8);
        }

        int heldIn(long v, int least, int most) {
            return (int) Math.min(most, Math.max(least, v));
        }

        Ran(String rule, Floor floor, int goal, int n, int seed) {
            z = seed;
            int pace = 0;
            int x = 0;
            int y = 0;
            for (int t = 0; t < n; t++) {
                starts.add(lopsided(lie, counter));
                int seen = starts.get(Math.max(0, t - told[2])) + draw() % (2 * told[3] + 1) - told[3];
                int s = 0;
                while (s < t && !ticks.get(t - 1 - s).tumbles) s++;
                pace = heldIn(worth(rule, 0, 0, pace, t, 0, seen, goal, s, anew), 0, 1200);
                if (pace < 60) {
                    lie.replaceAll(l -> l.with(2, draw() % 12));
                    if (t == 0 || !ticks.get(t - 1).tumbles) anew++;
                } else {
                    drain(lie, pace, t, s, anew);
                }
                int lopsided = lopsided(lie, counter);
                int shake = shakeOf(lopsided, pace);
                if (shake > 500) knocks++;
                if (shake > floor.grip) {
                    int side = side(lie, counter);
                    hops++;
                    x = heldIn(x + (long) C[side] * (shake - floor.grip) / 1000 + floor.dx, -9999, 9999);
                    y = heldIn(y + (long) C[(side + 9) % 12] * (shake - floor.grip) / 1000 + floor.dy, -9999, 9999);
                }
                walked = Math.abs(x) + Math.abs(y);
                far = Math.max(far, walked);
                if (done == NOT && pace >= goal) done = t;
                ticks.add(new Tick(pace, lopsided, shake, x, y, pace < 60));
            }
            stopped = far > told[4] ? 1 : 0;
        }
    }

    void drain(List<Lump> lie, int pace, int t, int s, int c) {
        int lopsided = lopsided(lie, counter);
        lie.replaceAll(l -> {
            int leaves = l.wet * pace / 6000;
            if (water >= 0) leaves = worth(laws.get(water), l.wet, l.holds, pace, t, lopsided, 0, 0, s, c);
            return l.with(1, l.wet - Math.max(0, Math.min(l.wet, leaves)));
        });
    }

    boolean isRun(int rf, int gn, int most) {
        return rf >= 0 && gn >= 0 && rf / 10 < laws.size() && rf % 10 < floors.size()
            && in(gn / 1000, 100, 1200) && in(gn % 1000, 1, most);
    }

    Ran ran(int rf, int gn, int n, int seed) {
        return new Ran(laws.get(rf / 10), floors.get(rf % 10), gn / 1000, n, seed);
    }

    int run(int rf, int gn, int seed, int deed) {
        if (!isRun(rf, gn, 200) || !in(deed, 0, 1)) return BAD;
        latest = ran(rf, gn, gn % 1000, seed);
        if (deed == 1) {
            lumps = new ArrayList<>(latest.lie);
            undos.clear();
            redos.clear();
        }
        return latest.ticks.get(gn % 1000 - 1).pace;
    }

    int led(int t, int what) {
        if (latest == null) return VOID;
        if (t == -1) {
            return in(what, 0, 3) ? new int[] {latest.ticks.size(), latest.knocks, latest.hops, latest.anew}[what] : VOID;
        }
        if (!in(t, 0, latest.ticks.size() - 1) || !in(what, 0, 4)) return VOID;
        Tick k = latest.ticks.get(t);
        return new int[] {k.pace, k.lopsided, k.shake, k.x, k.y}[what];
    }

    int did(int what) {
        if (latest == null || !in(what, 0, 4)) return VOID;
        return new int[] {latest.done, wet(latest.lie), latest.walked, latest.far, latest.stopped}[what];
    }

    // ---- in thought

    int fear(int what) {
        if (!in(what, 0, 1)) return BAD;
        int worst = 1200;
        for (int v = 1200; v >= 10; v -= 10) {
            if (shake(v) >= shake(worst)) worst = v;
        }
        return what == 0 ? worst : shake(worst);
    }

    int may(int floor, int goal) {
        if (!in(floor, 0, floors.size() - 1) || !in(goal, 100, 1200)) return BAD;
        int least = 0;
        int above = 10000;
        while (above - least > 1) {
            int mid = (least + above) / 2;
            boolean fits = true;
            for (int v = 10; v <= goal; v += 10) fits &= shakeOf(mid, v) <= floors.get(floor).grip;
            if (fits) least = mid;
            else above = mid;
        }
        return least;
    }

    int weight(int what) {
        if (!in(what, 0, 1)) return BAD;
        int best = 9911;
        for (int w = 99; w >= 0; w--) {
            for (int a = 11; a >= 0; a--) {
                if (lopsided(lumps, w * 100 + a) <= lopsided(lumps, best)) best = w * 100 + a;
            }
        }
        return what == 0 ? best : lopsided(lumps, best);
    }

    int spread(int n, int seed, int what) {
        if (!in(n, 1, 50) || !in(what, 0, 2)) return BAD;
        int z = seed;
        List<Integer> all = new ArrayList<>();
        for (int k = 0; k < n; k++) {
            List<Lump> then = new ArrayList<>();
            for (Lump l : lumps) {
                z = z * 1103515245 + 12345;
                then.add(l.with(2, (z >>> 8) % 12));
            }
            all.add(lopsided(then, counter));
        }
        int least = all.stream().min(Integer::compare).get();
        return what == 0 ? all.indexOf(least) : what == 1 ? least : all.stream().mapToInt(i -> i).sum() / n;
    }

    int loads(int rf, int gn, int seed, int what) {
        if (!isRun(rf, gn, 50) || !in(what, 0, 3)) return BAD;
        return tally(rf, gn, seed)[what];
    }

    int[] tally(int rf, int gn, int seed) {
        int[] all = new int[4];
        for (int k = 0; k < gn % 1000; k++) {
            Ran r = ran(rf, gn, 60, seed + k);
            all[0] += r.done >= 0 ? 1 : 0;
            all[1] += wet(r.lie);
            all[2] += r.walked;
            all[3] += r.stopped;
        }
        all[1] /= gn % 1000;
        all[2] /= gn % 1000;
        return all;
    }

    int best(int floor, int goal, int seed) {
        if (!in(floor, 0, floors.size() - 1) || !in(goal, 100, 1200)) return BAD;
        if (laws.isEmpty()) return STATE;
        List<int[]> all = new ArrayList<>();
        for (int r = 0; r < laws.size(); r++) {
            int[] of = tally(10 * r + floor, 1000 * goal + 9, seed);
            all.add(new int[] {-of[0], of[2], of[1], r});
        }
        all.sort(Arrays::compare);
        return all.get(0)[3];
    }

    int never(int rule, int goal, int v) {
        if (!in(rule, 0, laws.size() - 1) || !in(goal, 100, 1200) || !in(v, 0, 950)) return BAD;
        for (int d = (v + 49) / 50 * 50; d <= 950; d += 50) {
            for (int p = 0; p < 1200; p += 100) {
                if (worth(laws.get(rule), 0, 0, p, 0, 0, d, goal, 0, 0) > 300) return 0;
            }
        }
        return 1;
    }

    int beside(int pace, int m) {
        if (!in(pace, 60, 1200) || !in(m, 0, 9999)) return BAD;
        List<Lump> lie = new ArrayList<>(lumps);
        int t = 0;
        while (wet(lie) > m) {
            if (t == 200) return NOT;
            drain(lie, pace, t, t, 0);
            t++;
        }
        return t;
    }

    // ---- acts, shelves

    static void ran(int body) {
        trace.add(body);
    }

    interface Clings {
        int number();

        default int clings(int x) {
            ran(1);
            return x + number();
        }
    }

    interface Tells {
        int shakes(int x);

        int hops(int x);

        default int tells(int x) {
            ran(2);
            return shakes(x) - hops(1);
        }
    }

    static class Load implements Clings, Tells {
        int n;

        public int number() {
            return n;
        }

        public int shakes(int x) {
            ran(10);
            return clings(x) * 2;
        }

        public int hops(int x) {
            ran(11);
            return x ^ n;
        }
    }

    static class Spread extends Load {
        public int clings(int x) {
            ran(20);
            return super.clings(x) + 3;
        }
    }

    static class Lumped extends Load {
        public int shakes(int x) {
            ran(30);
            return -super.shakes(x);
        }
    }

    static class Single extends Lumped {
        public int hops(int x) {
            ran(40);
            return super.hops(x) * 3;
        }

        public int shakes(int x) {
            ran(41);
            return super.shakes(x + 1);
        }
    }

    static class Rubber extends Load {
        public int hops(int x) {
            ran(50);
            return super.hops(x) - clings(2);
        }
    }

    static class Shoes extends Spread {
        public int tells(int x) {
            ran(60);
            return super.tells(x) ^ 5;
        }
    }

    static class Changing extends Rubber {
        public int clings(int x) {
            ran(70);
            return super.clings(x) * 2;
        }
    }

    static class Empty extends Load {
        public int shakes(int x) {
            ran(80);
            return super.shakes(x) + hops(2);
        }

        public int tells(int x) {
            ran(81);
            return super.tells(x) - 1;
        }
    }

    static final List<Class<? extends Load>> KINDS = List.of(Load.class, Spread.class, Lumped.class, Single.class,
        Rubber.class, Shoes.class, Changing.class, Empty.class);

    int body(int kind) {
        if (!in(kind, 0, 7)) return BAD;
        if (bodies.size() == 50) return FULL;
        Load l = switch (kind) {
            case 1 -> new Spread();
            case 2 -> new Lumped();
            case 3 -> new Single();
            case 4 -> new Rubber();
            case 5 -> new Shoes();
            case 6 -> new Changing();
            case 7 -> new Empty();
            default -> new Load();
        };
        l.n = bodies.size();
        bodies.add(l);
        return l.n;
    }

    int act(int body, int act, int x) {
        trace = myTrace = new ArrayList<>();
        if (!in(body, 0, bodies.size() - 1)) return 0;
        Load l = bodies.get(body);
        return switch (act) {
            case 0 -> l.clings(x);
            case 1 -> l.shakes(x);
            case 2 -> l.hops(x);
            case 3 -> l.tells(x);
            default -> 0;
        };
    }

    int trace(int i) {
        return in(i, 0, Math.min(24, myTrace.size()) - 1) ? myTrace.get(i) : BAD;
    }

    int keep(int shelf, int body) {
        if (!in(shelf, 0, 5) || !in(body, -1, bodies.size() - 1)) return BAD;
        shelves[shelf] = body < 0 ? null : bodies.get(body);
        return 1;
    }

    int row(int shelf, int sort, int n) {
        if (!in(shelf, 0, 5) || !in(sort, 0, 4) || n > 60) return BAD;
        if (n < 0) return -14;
        shelves[shelf] = switch (sort) {
            case 0 -> new byte[n];
            case 1 -> new short[n];
            case 2 -> new int[n];
            case 3 -> new long[n];
            default -> new boolean[n];
        };
        return 1;
    }

    int refusal(int shelf, int i) {
        if (!in(shelf, 0, 5)) return BAD;
        if (shelves[shelf] == null) return -11;
        if (shelves[shelf] instanceof Load) return -12;
        return in(i, 0, java.lang.reflect.Array.getLength(shelves[shelf]) - 1) ? 0 : -13;
    }

    int put(int shelf, int i, long v) {
        if (refusal(shelf, i) != 0) return refusal(shelf, i);
        Object row = shelves[shelf];
        if (row instanceof byte[] r) r[i] = (byte) v;
        if (row instanceof short[] r) r[i] = (short) v;
        if (row instanceof int[] r) r[i] = (int) v;
        if (row instanceof long[] r) r[i] = v;
        if (row instanceof boolean[] r) r[i] = v != 0;
        return 1;
    }

    long element(int shelf, int i) {
        if (refusal(shelf, i) != 0) return Long.MIN_VALUE;
        if (shelves[shelf] instanceof boolean[] r) return r[i] ? 1 : 0;
        return java.lang.reflect.Array.getLong(shelves[shelf], i);
    }

    int shift(int shelf, int i, int other, int j, int n) {
        if (!in(shelf, 0, 5) || !in(other, 0, 5)) return BAD;
        if (shelves[shelf] == null || shelves[other] == null) return -11;
        try {
            System.arraycopy(shelves[shelf], i, shelves[other], j, n);
            return n;
        } catch (ArrayStoreException e) {
            return -12;
        } catch (IndexOutOfBoundsException e) {
            return -13;
        }
    }

    int taken(int shelf, int k) {
        if (!in(shelf, 0, 5) || !in(k, 0, 7)) return BAD;
        if (shelves[shelf] == null) return -11;
        return KINDS.get(k).isInstance(shelves[shelf]) ? KINDS.indexOf(shelves[shelf].getClass()) : -12;
    }

    int count(int what) {
        if (!in(what, 0, 6)) return BAD;
        return new int[] {lumps.size(), floors.size(), laws.size(), tape.length(), undos.size(), bodies.size(),
            myTrace.size()}[what];
    }
}
