/** A machine that walks: lumps in a drum, laws told as texts, runs kept tick by tick. README.md tells more. */
public final class MachineWalks {
    public static final int BAD = -1, NOT = -2, FULL = -3, STATE = -5, VOID = -2000000000;

    private static final int NOTHING_THERE = -11, OTHER_KIND = -12, NO_PLACE = -13, BELOW_ZERO = -14;

    private final Drum drum;
    private final Changes changes;
    private final Machine machine;
    private final Laws laws;
    private final Walk latest;
    private final Thought thought;
    private final Acts acts;
    private final Shelves shelves;

    public MachineWalks() {
        drum = new Drum();
        changes = new Changes(drum);
        machine = new Machine();
        laws = new Laws();
        latest = new Walk(machine, laws);
        thought = new Thought(drum, machine, laws);
        acts = new Acts();
        shelves = new Shelves();
    }

    // ---- lumps, the machine

    public int lump(int dw, int ah) {
        if (dw < 0 || ah < 0 || !Drum.isLump(dw / 100, dw % 100, ah / 10, ah % 10)) return BAD;
        if (drum.isFull()) return FULL;
        return drum.join(dw / 100, dw % 100, ah / 10, ah % 10);
    }

    public int lumps(int shelf, int i, int n) {
        if (!Shelves.isShelf(shelf) || n < 1 || n > Drum.MOST) return BAD;
        if (shelves.isEmpty(shelf)) return 0;
        if (!shelves.holdsRowOf(shelf, Shelves.BYTES)) return OTHER_KIND;
        int came = 0;
        while (came < n && lumpCameFromRow(shelf, i + 4L * came)) came++;
        return came;
    }

    private boolean lumpCameFromRow(int shelf, long from) {
        if (drum.isFull() || !shelves.hasPlaces(shelf, from, 4)) return false;
        int place = (int) from;
        int dry = (int) shelves.valueAt(shelf, place);
        int wet = (int) shelves.valueAt(shelf, place + 1);
        int angle = (int) shelves.valueAt(shelf, place + 2);
        int holds = (int) shelves.valueAt(shelf, place + 3);
        if (!Drum.isLump(dry, wet, angle, holds)) return false;
        drum.join(dry, wet, angle, holds);
        return true;
    }

    public int mend(int lump, int what, int v) {
        if (!drum.hasLump(lump) || !Drum.isTold(what, v)) return BAD;
        return changes.tell(lump, what, v);
    }

    public int of(int lump, int what) {
        if (!drum.hasLump(lump) || what < 0 || what > Drum.HOLDS) return BAD;
        return drum.told(lump, what);
    }

    public int counter(int wa) {
        if (!Drum.isCounter(wa)) return BAD;
        return changes.tell(0, Drum.COUNTER, wa);
    }

    public int set(int what, int v) {
        return Machine.isTold(what, v) ? machine.tell(what, v) : BAD;
    }

    public int floor(int grip, int xy) {
        if (xy < 0 || !Machine.isFloor(grip, xy / 100 - 9, xy % 100 - 9)) return BAD;
        return machine.floorsAreFull() ? FULL : machine.layFloor(grip, xy / 100 - 9, xy % 100 - 9);
    }

    public int load(int what) {
        switch (what) {
            case 0: return drum.lopsided();
            case 1: return drum.across();
            case 2: return drum.along();
            case 3: return drum.side();
            case 4: return drum.wetOfAll();
            default: return VOID;
        }
    }

    public int shake(int pace) {
        return Machine.isPace(pace) ? machine.shakeOf(drum.lopsided(), pace) : BAD;
    }

    // ---- laws, runs

    public int feed(int n, int v) {
        if (n < 1 || n > 4) return BAD;
        return laws.tape.hasRoomFor(n) ? laws.tape.take(n, v) : FULL;
    }

    public int law() {
        return laws.areFull() ? FULL : laws.makeFromTape();
    }

    public int water(int law) {
        return law == Laws.NONE || laws.has(law) ? laws.giveWater(law) : VOID;
    }

    public int run(int rf, int gn, int seed, int deed) {
        if (!isRuleAndFloor(rf) || !isGoalAndCount(gn, Walk.MOST_TICKS) || deed < 0 || deed > 1) return BAD;
        latest.through(drum, rf / 10, rf % 10, gn / 1000, gn % 1000, seed);
        if (deed == 1) {
            drum.lieAs(latest.drum);
            changes.end();
        }
        return latest.pace;
    }

    private boolean isRuleAndFloor(int rf) {
        return rf >= 0 && laws.has(rf / 10) && machine.hasFloor(rf % 10);
    }

    private static boolean isGoalAndCount(int gn, int most) {
        return gn >= 0 && Machine.isGoal(gn / 1000) && gn % 1000 >= 1 && gn % 1000 <= most;
    }

    public int led(int t, int what) {
        if (latest.ticks == 0) return VOID;
        return t == -1 ? latest.counted(what) : latest.keptOf(t, what);
    }

    public int did(int what) {
        if (latest.ticks == 0) return VOID;
        switch (what) {
            case 0: return latest.done;
            case 1: return latest.left();
            case 2: return latest.walked();
            case 3: return latest.far;
            case 4: return latest.stopped ? 1 : 0;
            default: return VOID;
        }
    }

    // ---- in thought

    public int fear(int what) {
        if (what < 0 || what > 1) return BAD;
        int pace = thought.paceToFear();
        return what == 0 ? pace : machine.shakeOf(drum.lopsided(), pace);
    }

    public int may(int floor, int goal) {
        return machine.hasFloor(floor) && Machine.isGoal(goal) ? machine.mostLopsided(floor, goal) : BAD;
    }

    public int weight(int what) {
        return what < 0 || what > 1 ? BAD : thought.bestCounter(what);
    }

    public int spread(int n, int seed, int what) {
        return n < 1 || n > Thought.MOST_TIMES || what < 0 || what > 2 ? BAD : thought.spreadBest(n, seed, what);
    }

    public int loads(int rf, int gn, int seed, int what) {
        if (!isRuleAndFloor(rf) || !isGoalAndCount(gn, Thought.MOST_TIMES) || what < 0 || what > 3) return BAD;
        thought.walkOften(rf / 10, rf % 10, gn / 1000, gn % 1000, seed);
        return thought.tallied(what);
    }

    public int best(int floor, int goal, int seed) {
        if (!machine.hasFloor(floor) || !Machine.isGoal(goal)) return BAD;
        return laws.many == 0 ? STATE : thought.bestRule(floor, goal, seed);
    }

    public int never(int rule, int goal, int v) {
        if (!laws.has(rule) || !Machine.isGoal(goal) || v < 0 || v > 950) return BAD;
        return thought.isCalm(rule, goal, v) ? 1 : 0;
    }

    public int beside(int pace, int m) {
        if (pace < Machine.CLINGS || !Machine.isPace(pace) || m < 0 || m > 9999) return BAD;
        return thought.ticksTillDry(pace, m);
    }

    public int undo() {
        return changes.undoable() == 0 ? STATE : changes.takeBack();
    }

    public int redo() {
        return changes.redoable() == 0 ? STATE : changes.doAgain();
    }

    // ---- acts, shelves

    public int body(int kind) {
        if (!Acts.isKind(kind)) return BAD;
        return acts.areFull() ? FULL : acts.keepOne(kind);
    }

    public int act(int body, int act, int x) {
        return acts.begin(body, act, x);
    }

    public int trace(int i) {
        return i >= 0 && i < acts.traced() ? acts.traceAt(i) : BAD;
    }

    public int keep(int shelf, int body) {
        if (!Shelves.isShelf(shelf) || body != -1 && !acts.hasLoad(body)) return BAD;
        shelves.hold(shelf, body);
        return 1;
    }

    public int row(int shelf, int sort, int n) {
        if (!Shelves.isShelf(shelf) || !Shelves.isSort(sort) || n > Shelves.MOST) return BAD;
        if (n < 0) return BELOW_ZERO;
        shelves.holdRow(shelf, sort, n);
        return 1;
    }

    public int put(int shelf, int i, long v) {
        int refusal = elementRefusal(shelf, i);
        if (refusal != 0) return refusal;
        shelves.change(shelf, i, v);
        return 1;
    }

    public long element(int shelf, int i) {
        return elementRefusal(shelf, i) == 0 ? shelves.valueAt(shelf, i) : Long.MIN_VALUE;
    }

    private int elementRefusal(int shelf, int i) {
        if (!Shelves.isShelf(shelf)) return BAD;
        if (shelves.isEmpty(shelf)) return NOTHING_THERE;
        if (!shelves.holdsRow(shelf)) return OTHER_KIND;
        return shelves.hasPlaces(shelf, i, 1) ? 0 : NO_PLACE;
    }

    public int shift(int shelf, int i, int other, int j, int n) {
        if (!Shelves.isShelf(shelf) || !Shelves.isShelf(other)) return BAD;
        if (shelves.isEmpty(shelf) || shelves.isEmpty(other)) return NOTHING_THERE;
        if (!shelves.holdsRow(shelf) || !shelves.holdsRowOf(other, shelves.sortOf(shelf))) return OTHER_KIND;
        if (n < 0 || !shelves.hasPlaces(shelf, i, n) || !shelves.hasPlaces(other, j, n)) return NO_PLACE;
        shelves.copy(shelf, i, other, j, n);
        return n;
    }

    public int taken(int shelf, int k) {
        if (!Shelves.isShelf(shelf) || !Acts.isKind(k)) return BAD;
        if (shelves.isEmpty(shelf)) return NOTHING_THERE;
        if (shelves.holdsRow(shelf)) return OTHER_KIND;
        int kind = acts.kindOf(shelves.loadOn(shelf));
        return Acts.isUnder(kind, k) ? kind : OTHER_KIND;
    }

    public int count(int what) {
        switch (what) {
            case 0: return drum.many;
            case 1: return machine.floors;
            case 2: return laws.many;
            case 3: return laws.tape.many;
            case 4: return changes.undoable();
            case 5: return acts.many;
            case 6: return acts.ran;
            default: return BAD;
        }
    }

    /** What lies in the drum, and the counterweight. */
    private static final class Drum {
        static final int MOST = 12, ANGLES = 12, DRY = 0, WET = 1, ANGLE = 2, HOLDS = 3, COUNTER = 4;
        private static final int[] C = {1000, 866, 500, 0, -500, -866, -1000, -866, -500, 0, 500, 866};
        private static final int[] S = {0, 500, 866, 1000, 866, 500, 0, -500, -866, -1000, -866, -500};

        private final int[] dry, wet, angle, holds;
        int many;
        private int counterweight;

        Drum() {
            dry = new int[MOST];
            wet = new int[MOST];
            angle = new int[MOST];
            holds = new int[MOST];
        }

        static int cosine(int angle) {
            return angle >= 0 && angle < ANGLES ? C[angle] : 0;
        }

        static int sine(int angle) {
            return angle >= 0 && angle < ANGLES ? S[angle] : 0;
        }

        static boolean isLump(int dry, int wet, int angle, int holds) {
            return isTold(DRY, dry) && isTold(WET, wet) && isTold(ANGLE, angle) && holds >= 0 && holds <= 9;
        }

        static boolean isTold(int what, int v) {
            switch (what) {
                case DRY: return v >= 1 && v <= 50;
                case WET: return v >= 0 && v <= 99;
                case ANGLE: return v >= 0 && v < ANGLES;
                default: return false;
            }
        }

        static boolean isCounter(int wa) {
            return wa >= 0 && wa / 100 <= 99 && wa % 100 < ANGLES;
        }

        boolean isFull() {
            return many >= MOST;
        }

        boolean hasLump(int lump) {
            return lump >= 0 && lump < many;
        }

        int join(int itsDry, int itsWet, int itsAngle, int itHolds) {
            if (many >= MOST) return FULL;
            dry[many] = itsDry;
            wet[many] = itsWet;
            angle[many] = itsAngle;
            holds[many] = itHolds;
            many++;
            return many - 1;
        }

        int told(int lump, int what) {
            if (what == COUNTER) return counterweight;
            if (!hasLump(lump)) return BAD;
            switch (what) {
                case DRY: return dry[lump];
                case WET: return wet[lump];
                case ANGLE: return angle[lump];
                case HOLDS: return holds[lump];
                default: return BAD;
            }
        }

        void tell(int lump, int what, int v) {
            if (what == COUNTER) counterweight = v;
            if (!hasLump(lump)) return;
            if (what == DRY) dry[lump] = v;
            if (what == WET) wet[lump] = v;
            if (what == ANGLE) angle[lump] = v;
        }

        void lieAs(Drum other) {
            many = other.many;
            counterweight = other.counterweight;
            for (int i = 0; i < many && i < MOST; i++) {
                dry[i] = other.dry[i];
                wet[i] = other.wet[i];
                angle[i] = other.angle[i];
                holds[i] = other.holds[i];
            }
        }

        int tumble(int seed) {
            int z = seed;
            for (int i = 0; i < many; i++) {
                z = drawn(z);
                angle[i] = (z >>> 8) % ANGLES;
            }
            return z;
        }

        static int drawn(int z) {
            return z * 1103515245 + 12345;
        }

        int across() {
            int sum = counterweight / 100 * cosine(counterweight % 100) / 10;
            for (int i = 0; i < many; i++) sum += (dry[i] + wet[i]) * cosine(angle[i]) / 10;
            return sum;
        }

        int along() {
            int sum = counterweight / 100 * sine(counterweight % 100) / 10;
            for (int i = 0; i < many; i++) sum += (dry[i] + wet[i]) * sine(angle[i]) / 10;
            return sum;
        }

        int lopsided() {
            return lopsidedBy(across(), along());
        }

        static int lopsidedBy(int x, int y) {
            int greater = Math.max(Math.abs(x), Math.abs(y));
            int lesser = Math.min(Math.abs(x), Math.abs(y));
            return (greater + 3 * lesser / 8) / 100;
        }

        int side() {
            int x = across();
            int y = along();
            int side = 0;
            for (int a = 1; a < ANGLES; a++) {
                if (x * cosine(a) + y * sine(a) > x * cosine(side) + y * sine(side)) side = a;
            }
            return side;
        }

        int wetOfAll() {
            int sum = 0;
            for (int i = 0; i < many; i++) sum += wet[i];
            return sum;
        }
    }

    /** What is told of lumps and counterweight, so that it can be taken back and done again. */
    private static final class Changes {
        private static final int MOST = 40;

        private final Drum drum;
        private final int[] lump, what, was, now;
        private int done, known;

        Changes(Drum drum) {
            this.drum = drum;
            lump = new int[MOST];
            what = new int[MOST];
            was = new int[MOST];
            now = new int[MOST];
        }

        int tell(int itsLump, int itsWhat, int v) {
            int before = drum.told(itsLump, itsWhat);
            if (before == v) return before;
            if (done >= MOST) dropOldest();
            lump[done] = itsLump;
            what[done] = itsWhat;
            was[done] = before;
            now[done] = v;
            done++;
            known = done;
            drum.tell(itsLump, itsWhat, v);
            return before;
        }

        private void dropOldest() {
            for (int i = 1; i < MOST; i++) {
                lump[i - 1] = lump[i];
                what[i - 1] = what[i];
                was[i - 1] = was[i];
                now[i - 1] = now[i];
            }
            done = MOST - 1;
        }

        int undoable() {
            return done;
        }

        int redoable() {
            return known - done;
        }

        int takeBack() {
            if (done < 1) return STATE;
            done--;
            drum.tell(lump[done], what[done], was[done]);
            return undoable();
        }

        int doAgain() {
            if (done >= known || done >= MOST) return STATE;
            drum.tell(lump[done], what[done], now[done]);
            done++;
            return redoable();
        }

        void end() {
            done = 0;
            known = 0;
        }
    }

    /** The machine's own numbers, how it shakes, and the floors that it may stand on. */
    private static final class Machine {
        static final int MOST_PACE = 1200, CLINGS = 60, KNOCKS = 500;
        private static final int BEAT = 0, DAMP = 1, DELAY = 2, NOISE = 3, WALL = 4;
        private static final int MOST_FLOORS = 4, MOST_SHAKE = 99999;

        private int beat, damp, delay, noise, wall;
        private final int[] grips, slopesX, slopesY;
        int floors;

        Machine() {
            beat = 310;
            damp = 100;
            wall = 9999;
            grips = new int[MOST_FLOORS];
            slopesX = new int[MOST_FLOORS];
            slopesY = new int[MOST_FLOORS];
        }

        static boolean isPace(int v) {
            return v >= 0 && v <= MOST_PACE;
        }

        static boolean isGoal(int v) {
            return v >= 100 && v <= MOST_PACE;
        }

        static boolean isTold(int what, int v) {
            switch (what) {
                case BEAT: return v >= 100 && v <= 900;
                case DAMP: return v >= 1 && v <= 9999;
                case DELAY: return v >= 0 && v <= 9;
                case NOISE: return v >= 0 && v <= 50;
                case WALL: return v >= 1 && v <= 9999;
                default: return false;
            }
        }

        int tell(int what, int v) {
            int was = told(what);
            if (what == BEAT) beat = v;
            if (what == DAMP) damp = v;
            if (what == DELAY) delay = v;
            if (what == NOISE) noise = v;
            if (what == WALL) wall = v;
            return was;
        }

        private int told(int what) {
            switch (what) {
                case BEAT: return beat;
                case DAMP: return damp;
                case DELAY: return delay;
                case NOISE: return noise;
                case WALL: return wall;
                default: return BAD;
            }
        }

        static boolean isFloor(int grip, int dx, int dy) {
            return grip >= 1 && grip <= 999 && dx >= -9 && dx <= 9 && dy >= -9 && dy <= 9;
        }

        boolean floorsAreFull() {
            return floors >= MOST_FLOORS;
        }

        boolean hasFloor(int floor) {
            return floor >= 0 && floor < floors;
        }

        int layFloor(int grip, int dx, int dy) {
            if (floors >= MOST_FLOORS) return FULL;
            grips[floors] = grip;
            slopesX[floors] = dx;
            slopesY[floors] = dy;
            floors++;
            return floors - 1;
        }

        int gripOf(int floor) {
            return hasFloor(floor) ? grips[floor] : 0;
        }

        int slopeX(int floor) {
            return hasFloor(floor) ? slopesX[floor] : 0;
        }

        int slopeY(int floor) {
            return hasFloor(floor) ? slopesY[floor] : 0;
        }

        /** What the shake is divided by: never below DAMP, and so never 0. */
        private long stiffness(int pace) {
            long u = pace / 10;
            long b = beat / 10;
            return Math.max(1, Math.abs(u * u - b * b) + damp);
        }

        int shakeOf(int lopsided, int pace) {
            long u = pace / 10;
            return (int) Math.min(MOST_SHAKE, lopsided * u * u / stiffness(pace));
        }

        /** Turned round from shakeOf: the greatest L with L u u < (GRIP and 1) stiffness, at each pace. */
        int mostLopsided(int floor, int goal) {
            long most = 9999;
            for (int pace = 10; pace <= goal && pace <= MOST_PACE; pace += 10) {
                long u = Math.max(1, pace / 10);
                most = Math.min(most, ((gripOf(floor) + 1) * stiffness(pace) - 1) / (u * u));
            }
            return (int) most;
        }
    }

    /** The bytes of a law that is being told, and how they are read. */
    private static final class Tape {
        static final int MOST = 120;
        private static final int MOST_OPEN = 6, COMPARISONS = 2, OPERANDS = 5;

        private final int[] bytes;
        int many;
        private int place;
        private Law law;

        Tape() {
            bytes = new int[MOST];
        }

        boolean hasRoomFor(int n) {
            return many + n <= MOST;
        }

        int take(int n, int v) {
            for (int k = 0; k < n && many < MOST; k++) {
                bytes[many] = (v >>> (8 * k)) & 255;
                many++;
            }
            return many;
        }

        void empty() {
            many = 0;
        }

        /** Whether the tape is a law; where it isn't, faultPlace() tells its place. */
        boolean isReadInto(Law target) {
            law = target;
            law.empty();
            place = 0;
            for (int line = 0; line < MOST && lineIsRead(); line++) {
                if (place >= many) return true;
                if (!isHere(';')) return false;
                law.add(Law.LINE_ENDS);
                place++;
            }
            return false;
        }

        int faultPlace() {
            return place;
        }

        private boolean lineIsRead() {
            if (!isRead(0, 0)) return false;
            if (!isHere('?')) return true;
            law.add(Law.ASKED);
            place++;
            return isRead(0, 0);
        }

        private boolean isHere(char sign) {
            return place < many && place < MOST && bytes[place] == sign;
        }

        private int here() {
            return place < many && place < MOST ? bytes[place] : 0;
        }

        /** Levels 0 to 4 are E, A, B, S, P of the document, level 5 is O: the signs that bind loosest come first. */
        private boolean isRead(int level, int open) {
            if (level >= OPERANDS) return operandIsRead(open);
            if (!isRead(level + 1, open)) return false;
            int most = level == COMPARISONS ? 1 : MOST;
            for (int k = 0; k < most && binds(here(), level); k++) {
                int sign = here();
                place++;
                if (!isRead(level + 1, open)) return false;
                law.add(Law.SIGNS + sign);
            }
            return true;
        }

        private static boolean binds(int sign, int level) {
            switch (level) {
                case 0: return sign == '|';
                case 1: return sign == '&';
                case 2: return sign == '<' || sign == '=' || sign == '>';
                case 3: return sign == '+' || sign == '-';
                default: return sign == '*' || sign == '/' || sign == '%';
            }
        }

        private boolean operandIsRead(int open) {
            int sign = here();
            if (isDigit(sign)) return numberIsRead();
            int name = Law.nameOf(sign);
            if (name >= 0) {
                place++;
                law.add(-1 - name);
                return true;
            }
            if (sign != '(' && sign != '!' && sign != '-' || open >= MOST_OPEN) return false;
            place++;
            return sign == '(' ? bracketIsRead(open + 1) : signedIsRead(sign, open + 1);
        }

        private boolean bracketIsRead(int open) {
            if (!isRead(0, open) || !isHere(')')) return false;
            place++;
            return true;
        }

        private boolean signedIsRead(int sign, int open) {
            if (!operandIsRead(open)) return false;
            law.add(sign == '!' ? Law.REFUSED : Law.TURNED);
            return true;
        }

        private static boolean isDigit(int sign) {
            return sign >= '0' && sign <= '9';
        }

        private boolean numberIsRead() {
            int number = 0;
            for (int k = 0; k < 4 && isDigit(here()); k++) {
                number = number * 10 + here() - '0';
                place++;
            }
            law.add(number);
            return true;
        }
    }

    /** A law in the order in which a stack works it out: numbers as they are, names below 0, signs from SIGNS on. */
    private static final class Law {
        static final int SIGNS = 10000, LINE_ENDS = SIGNS + ';', ASKED = SIGNS + '?';
        static final int REFUSED = SIGNS + '!', TURNED = SIGNS + '~';
        static final int W = 0, H = 1, P = 2, T = 3, L = 4, D = 5, G = 6, S = 7, COUNTED = 8, NAMES = 9;

        private final int[] code, stack;
        private int length, top;

        Law() {
            code = new int[Tape.MOST];
            stack = new int[Tape.MOST];
        }

        static int nameOf(int sign) {
            switch (sign) {
                case 'w': return W;
                case 'h': return H;
                case 'p': return P;
                case 't': return T;
                case 'l': return L;
                case 'd': return D;
                case 'g': return G;
                case 's': return S;
                case 'c': return COUNTED;
                default: return -1;
            }
        }

        void empty() {
            length = 0;
        }

        void add(int step) {
            if (length < Tape.MOST) {
                code[length] = step;
                length++;
            }
        }

        int worth(int[] names) {
            top = 0;
            boolean skips = false;
            for (int i = 0; i < length; i++) {
                int step = code[i];
                if (skips) skips = step != LINE_ENDS;
                else if (step == LINE_ENDS) return pop();
                else if (step == ASKED) skips = pop() == 0;
                else if (step < 0) push(-1 - step < names.length ? names[-1 - step] : 0);
                else if (step < SIGNS) push(step);
                else workOut(step);
            }
            return pop();
        }

        private void push(int v) {
            if (top < Tape.MOST) {
                stack[top] = v;
                top++;
            }
        }

        /** 0 where no line counted: then nothing is on the stack. */
        private int pop() {
            if (top < 1) return 0;
            top--;
            return stack[top];
        }

        private void workOut(int step) {
            int b = pop();
            if (step == TURNED) push(-b);
            else if (step == REFUSED) push(b == 0 ? 1 : 0);
            else push(joined((char) (step - SIGNS), pop(), b));
        }

        private static int joined(char sign, int a, int b) {
            switch (sign) {
                case '|': return a != 0 || b != 0 ? 1 : 0;
                case '&': return a != 0 && b != 0 ? 1 : 0;
                case '<': return a < b ? 1 : 0;
                case '=': return a == b ? 1 : 0;
                case '>': return a > b ? 1 : 0;
                case '+': return a + b;
                case '-': return a - b;
                case '*': return a * b;
                case '/': return b == 0 ? 0 : a / b;
                case '%': return b == 0 ? 0 : a % b;
                default: return 0;
            }
        }
    }

    /** The laws, the tape that they come by, and which of them is the water's. */
    private static final class Laws {
        static final int NONE = -1;
        private static final int MOST = 4;

        final Tape tape;
        private final Law[] laws;
        private final int[] names;
        int many;
        private int waters;

        Laws() {
            tape = new Tape();
            names = new int[Law.NAMES];
            laws = new Law[MOST];
            for (int i = 0; i < MOST; i++) laws[i] = new Law();
            waters = NONE;
        }

        boolean areFull() {
            return many >= MOST;
        }

        boolean has(int law) {
            return law >= 0 && law < many;
        }

        int makeFromTape() {
            if (many >= MOST) return FULL;
            boolean isLaw = tape.isReadInto(laws[many]);
            tape.empty();
            if (!isLaw) return -100 - tape.faultPlace();
            many++;
            return many - 1;
        }

        int giveWater(int law) {
            int was = waters;
            waters = law;
            return was;
        }

        int paceBy(int rule, int pace, int t, int seen, int goal, int s, int c) {
            name(0, 0, pace, t, 0, s, c);
            names[Law.D] = seen;
            names[Law.G] = goal;
            int next = has(rule) ? laws[rule].worth(names) : 0;
            return Math.max(0, Math.min(Machine.MOST_PACE, next));
        }

        void drain(Drum drum, int lopsided, int pace, int t, int s, int c) {
            for (int i = 0; i < drum.many; i++) {
                int wet = drum.told(i, Drum.WET);
                int leaves = wet * pace / 6000;
                if (has(waters)) {
                    name(wet, drum.told(i, Drum.HOLDS), pace, t, lopsided, s, c);
                    leaves = Math.max(0, Math.min(wet, laws[waters].worth(names)));
                }
                drum.tell(i, Drum.WET, wet - leaves);
            }
        }

        private void name(int w, int h, int p, int t, int l, int s, int c) {
            names[Law.W] = w;
            names[Law.H] = h;
            names[Law.P] = p;
            names[Law.T] = t;
            names[Law.L] = l;
            names[Law.D] = 0;
            names[Law.G] = 0;
            names[Law.S] = s;
            names[Law.COUNTED] = c;
        }
    }

    /** A run and what is kept of it. The drum is its own: who wants it in deed takes it over. */
    private static final class Walk {
        static final int MOST_TICKS = 200;
        private static final int PACE = 0, LOPSIDED = 1, SHAKE = 2, X = 3, Y = 4, KEPT = 5, FARTHEST = 9999;

        private final Machine machine;
        private final Laws laws;
        final Drum drum;
        private final int[][] kept;
        private int z, x, y, atFirst, calm, anew, knocks, hops;
        int ticks, pace, done, far;
        boolean stopped;

        Walk(Machine machine, Laws laws) {
            this.machine = machine;
            this.laws = laws;
            drum = new Drum();
            kept = new int[KEPT][MOST_TICKS];
        }

        void through(Drum load, int rule, int floor, int goal, int n, int seed) {
            begin(load, seed);
            int lopsided = atFirst;
            boolean tumbled = false;
            for (int t = 0; t < n && t < MOST_TICKS; t++) {
                z = Drum.drawn(z);
                pace = laws.paceBy(rule, pace, t, seenAt(t), goal, calm, anew);
                boolean tumbles = pace < Machine.CLINGS;
                if (tumbles) {
                    z = drum.tumble(z);
                    if (!tumbled) anew++;
                } else {
                    laws.drain(drum, lopsided, pace, t, calm, anew);
                }
                calm = tumbles ? 0 : calm + 1;
                tumbled = tumbles;
                lopsided = drum.lopsided();
                shakeAndHop(t, floor, lopsided);
                if (done == NOT && pace >= goal) done = t;
            }
            stopped = far > machine.wall;
        }

        private void begin(Drum load, int seed) {
            drum.lieAs(load);
            atFirst = drum.lopsided();
            z = seed;
            x = 0;
            y = 0;
            pace = 0;
            calm = 0;
            anew = 0;
            knocks = 0;
            hops = 0;
            ticks = 0;
            far = 0;
            done = NOT;
        }

        private int seenAt(int t) {
            int ahead = t - 1 - machine.delay;
            int was = ahead >= 0 && ahead < MOST_TICKS ? kept[LOPSIDED][ahead] : atFirst;
            int noise = machine.noise;
            return was + (z >>> 8) % (2 * noise + 1) - noise;
        }

        private void shakeAndHop(int t, int floor, int lopsided) {
            int shake = machine.shakeOf(lopsided, pace);
            int above = shake - machine.gripOf(floor);
            if (shake > Machine.KNOCKS) knocks++;
            if (above > 0) {
                int side = drum.side();
                hops++;
                x = within(x + Drum.cosine(side) * above / 1000 + machine.slopeX(floor));
                y = within(y + Drum.sine(side) * above / 1000 + machine.slopeY(floor));
            }
            far = Math.max(far, walked());
            kept[PACE][t] = pace;
            kept[LOPSIDED][t] = lopsided;
            kept[SHAKE][t] = shake;
            kept[X][t] = x;
            kept[Y][t] = y;
            ticks = t + 1;
        }

        private static int within(int v) {
            return Math.max(-FARTHEST, Math.min(FARTHEST, v));
        }

        int keptOf(int t, int what) {
            return t >= 0 && t < ticks && what >= 0 && what < KEPT ? kept[what][t] : VOID;
        }

        int counted(int what) {
            switch (what) {
                case 0: return ticks;
                case 1: return knocks;
                case 2: return hops;
                case 3: return anew;
                default: return VOID;
            }
        }

        int left() {
            return drum.wetOfAll();
        }

        int walked() {
            return Math.abs(x) + Math.abs(y);
        }
    }

    /** What is asked of the load as it lies, and changes nothing of it. */
    private static final class Thought {
        static final int MOST_TIMES = 50;
        private static final int TICKS = 60, TIMES_FOR_BEST = 9, MOST_BESIDE = 200, TOO_FAST = 300;

        private final Drum load;
        private final Machine machine;
        private final Laws laws;
        private final Drum drum;
        private final Walk walk;
        private int times, done, left, walked, stopped;

        Thought(Drum load, Machine machine, Laws laws) {
            this.load = load;
            this.machine = machine;
            this.laws = laws;
            drum = new Drum();
            walk = new Walk(machine, laws);
        }

        int paceToFear() {
            int lopsided = load.lopsided();
            int feared = 10;
            for (int pace = 20; pace <= Machine.MOST_PACE; pace += 10) {
                if (machine.shakeOf(lopsided, pace) > machine.shakeOf(lopsided, feared)) feared = pace;
            }
            return feared;
        }

        int bestCounter(int what) {
            drum.lieAs(load);
            drum.tell(0, Drum.COUNTER, 0);
            int x = drum.across();
            int y = drum.along();
            int least = Drum.lopsidedBy(x, y);
            int counter = 0;
            for (int weight = 1; weight <= 99; weight++) {
                for (int a = 0; a < Drum.ANGLES; a++) {
                    int then = Drum.lopsidedBy(x + weight * Drum.cosine(a) / 10, y + weight * Drum.sine(a) / 10);
                    if (then < least) {
                        least = then;
                        counter = 100 * weight + a;
                    }
                }
            }
            return what == 0 ? counter : least;
        }

        int spreadBest(int n, int seed, int what) {
            drum.lieAs(load);
            int z = seed;
            int which = 0;
            int least = 0;
            int sum = 0;
            for (int k = 0; k < n; k++) {
                z = drum.tumble(z);
                int lopsided = drum.lopsided();
                sum += lopsided;
                if (k == 0 || lopsided < least) {
                    which = k;
                    least = lopsided;
                }
            }
            if (what == 0) return which;
            return what == 1 ? least : meanOf(sum, n);
        }

        private static int meanOf(int sum, int n) {
            return n < 1 ? 0 : sum / n;
        }

        void walkOften(int rule, int floor, int goal, int n, int seed) {
            times = n;
            done = 0;
            left = 0;
            walked = 0;
            stopped = 0;
            for (int k = 0; k < n; k++) {
                walk.through(load, rule, floor, goal, TICKS, seed + k);
                if (walk.done != NOT) done++;
                if (walk.stopped) stopped++;
                left += walk.left();
                walked += walk.walked();
            }
        }

        int tallied(int what) {
            switch (what) {
                case 0: return done;
                case 1: return meanOf(left, times);
                case 2: return meanOf(walked, times);
                default: return stopped;
            }
        }

        int bestRule(int floor, int goal, int seed) {
            int best = 0;
            int mostDone = 0;
            int leastWalked = 0;
            int leastLeft = 0;
            for (int rule = 0; rule < laws.many; rule++) {
                walkOften(rule, floor, goal, TIMES_FOR_BEST, seed);
                if (rule == 0 || isBetter(mostDone, leastWalked, leastLeft)) {
                    best = rule;
                    mostDone = done;
                    leastWalked = tallied(2);
                    leastLeft = tallied(1);
                }
            }
            return best;
        }

        private boolean isBetter(int mostDone, int leastWalked, int leastLeft) {
            if (done != mostDone) return done > mostDone;
            if (tallied(2) != leastWalked) return tallied(2) < leastWalked;
            return tallied(1) < leastLeft;
        }

        boolean isCalm(int rule, int goal, int v) {
            for (int pace = 0; pace <= 1100; pace += 100) {
                for (int seen = 0; seen <= 950; seen += 50) {
                    if (seen >= v && laws.paceBy(rule, pace, 0, seen, goal, 0, 0) > TOO_FAST) return false;
                }
            }
            return true;
        }

        int ticksTillDry(int pace, int m) {
            drum.lieAs(load);
            for (int t = 0; t <= MOST_BESIDE; t++) {
                if (drum.wetOfAll() <= m) return t;
                laws.drain(drum, drum.lopsided(), pace, t, t, 0);
            }
            return NOT;
        }
    }

    /** Loads whose acts come from their own kind or from the next kind above that has one. */
    private static final class Acts {
        private static final int MOST = 50, KINDS = 8, ACTS = 4, TRACED = 24, DEEPEST = 20;
        private static final int CLINGS = 0, SHAKES = 1, HOPS = 2, TELLS = 3;
        private static final int[] ABOVE = {-1, 0, 0, 2, 0, 1, 4, 0};
        /** By kinds, for each act its own body, 0 where it has none; the interfaces' bodies stand with LOAD. */
        private static final int[] BODIES = {
            1, 10, 11, 2,
            20, 0, 0, 0,
            0, 30, 0, 0,
            0, 41, 40, 0,
            0, 0, 50, 0,
            0, 0, 0, 60,
            70, 0, 0, 0,
            0, 80, 0, 81
        };

        private final int[] kinds, trace;
        int many, ran;
        private int number, own;

        Acts() {
            kinds = new int[MOST];
            trace = new int[TRACED];
        }

        static boolean isKind(int kind) {
            return kind >= 0 && kind < KINDS;
        }

        static boolean isUnder(int kind, int above) {
            int k = kind;
            for (int step = 0; step < KINDS && isKind(k); step++) {
                if (k == above) return true;
                k = ABOVE[k];
            }
            return false;
        }

        boolean areFull() {
            return many >= MOST;
        }

        boolean hasLoad(int load) {
            return load >= 0 && load < many;
        }

        int keepOne(int kind) {
            if (many >= MOST) return FULL;
            kinds[many] = kind;
            many++;
            return many - 1;
        }

        int kindOf(int load) {
            return hasLoad(load) ? kinds[load] : BAD;
        }

        int traced() {
            return Math.min(ran, TRACED);
        }

        int traceAt(int i) {
            return i >= 0 && i < TRACED ? trace[i] : BAD;
        }

        int begin(int load, int act, int x) {
            ran = 0;
            if (!hasLoad(load) || act < 0 || act >= ACTS) return 0;
            number = load;
            own = kinds[load];
            return acted(own, act, x, 0);
        }

        private static int bodyOf(int kind, int act) {
            return isKind(kind) && act >= 0 && act < ACTS ? BODIES[kind * ACTS + act] : 0;
        }

        /** The act as the kind has it, or the next above; LOAD has them all, so the search ends there. */
        private int acted(int kind, int act, int x, int depth) {
            int k = kind;
            for (int step = 0; step < KINDS && isKind(k) && bodyOf(k, act) == 0; step++) k = ABOVE[k];
            if (!isKind(k) || depth > DEEPEST) return 0;
            if (ran < TRACED) trace[ran] = bodyOf(k, act);
            ran++;
            return worked(bodyOf(k, act), ABOVE[k], x, depth + 1);
        }

        private int worked(int itsBody, int above, int x, int depth) {
            switch (itsBody) {
                case 1: return x + number;
                case 2: return acted(own, SHAKES, x, depth) - acted(own, HOPS, 1, depth);
                case 10: return acted(own, CLINGS, x, depth) * 2;
                case 11: return x ^ number;
                case 20: return acted(above, CLINGS, x, depth) + 3;
                case 30: return -acted(above, SHAKES, x, depth);
                case 40: return acted(above, HOPS, x, depth) * 3;
                case 41: return acted(above, SHAKES, x + 1, depth);
                case 50: return acted(above, HOPS, x, depth) - acted(own, CLINGS, 2, depth);
                case 60: return acted(above, TELLS, x, depth) ^ 5;
                case 70: return acted(above, CLINGS, x, depth) * 2;
                case 80: return acted(above, SHAKES, x, depth) + acted(own, HOPS, 2, depth);
                case 81: return acted(above, TELLS, x, depth) - 1;
                default: return 0;
            }
        }
    }

    /** Shelves that hold nothing, a load or a row. Rows are made once, so that no call makes any. */
    private static final class Shelves {
        static final int MOST = 60, BYTES = 0;
        private static final int SHELVES = 6, SHORTS = 1, INTS = 2, BOOLEANS = 4;
        private static final int NOTHING = 0, LOAD = 1, ROW = 2;

        private final int[] holds, loads, sorts, lengths;
        private final long[][] rows;

        Shelves() {
            holds = new int[SHELVES];
            loads = new int[SHELVES];
            sorts = new int[SHELVES];
            lengths = new int[SHELVES];
            rows = new long[SHELVES][MOST];
        }

        static boolean isShelf(int shelf) {
            return shelf >= 0 && shelf < SHELVES;
        }

        static boolean isSort(int sort) {
            return sort >= BYTES && sort <= BOOLEANS;
        }

        boolean isEmpty(int shelf) {
            return !isShelf(shelf) || holds[shelf] == NOTHING;
        }

        boolean holdsRow(int shelf) {
            return isShelf(shelf) && holds[shelf] == ROW;
        }

        boolean holdsRowOf(int shelf, int sort) {
            return holdsRow(shelf) && sorts[shelf] == sort;
        }

        int sortOf(int shelf) {
            return isShelf(shelf) ? sorts[shelf] : BAD;
        }

        int loadOn(int shelf) {
            return isShelf(shelf) && holds[shelf] == LOAD ? loads[shelf] : BAD;
        }

        /** A load below 0 is none. */
        void hold(int shelf, int load) {
            if (!isShelf(shelf)) return;
            holds[shelf] = load < 0 ? NOTHING : LOAD;
            loads[shelf] = load;
        }

        void holdRow(int shelf, int sort, int n) {
            if (!isShelf(shelf)) return;
            holds[shelf] = ROW;
            sorts[shelf] = sort;
            lengths[shelf] = n;
            for (int i = 0; i < MOST; i++) rows[shelf][i] = 0;
        }

        boolean hasPlaces(int shelf, long from, int n) {
            return holdsRow(shelf) && from >= 0 && n >= 0 && from + n <= lengths[shelf];
        }

        long valueAt(int shelf, int i) {
            return hasPlaces(shelf, i, 1) && i < MOST ? rows[shelf][i] : Long.MIN_VALUE;
        }

        void change(int shelf, int i, long v) {
            if (hasPlaces(shelf, i, 1) && i < MOST) rows[shelf][i] = lowestBits(sorts[shelf], v);
        }

        private static long lowestBits(int sort, long v) {
            switch (sort) {
                case BYTES: return (byte) v;
                case SHORTS: return (short) v;
                case INTS: return (int) v;
                case BOOLEANS: return v != 0 ? 1 : 0;
                default: return v;
            }
        }

        void copy(int shelf, int i, int other, int j, int n) {
            if (hasPlaces(shelf, i, n) && hasPlaces(other, j, n)) {
                System.arraycopy(rows[shelf], i, rows[other], j, n);
            }
        }
    }
}
