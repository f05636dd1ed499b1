/** Promises 27 to 29: loads whose acts come from above, and the trace. */
final class ActsTest {
    public static void main(String[] args) {
        bodies();
        acts();
        traces();
        refused();
        Due.end();
    }

    static void bodies() {
        MachineWalks x = new MachineWalks();
        int[] bad = {-1, 8, Integer.MIN_VALUE, Integer.MAX_VALUE};
        for (int b : bad) Due.due("body(" + b + ")", x.body(b), -1);
        for (int i = 0; i < 50; i++) Due.due("body", x.body(i % 8), i);
        Due.due("the 51st", x.body(0), -3);
        Due.due("a bad 51st", x.body(8), -1);
        Due.due("count(5)", x.count(5), 50);
        Due.due("the last: SPREAD, number 49", x.act(49, 0, 100), 152);
    }

    /** Eight loads of the KINDS 0 to 7, with the numbers 10 to 17. */
    static MachineWalks kinds() {
        MachineWalks x = new MachineWalks();
        for (int i = 0; i < 10; i++) x.body(i % 8);
        for (int kind = 0; kind < 8; kind++) x.body(kind);
        return x;
    }

    static void acts() {
        MachineWalks x = kinds();
        // with x 100: clings, shakes, hops, tells; worked out by hand from the bodies
        int[][] due = {
            {110, 220, 110, 220 - (1 ^ 10)},
            {114, 228, 100 ^ 11, 228 - (1 ^ 11)},
            {112, -224, 100 ^ 12, -224 - (1 ^ 12)},
            {113, -228, (100 ^ 13) * 3, -228 - (1 ^ 13) * 3},
            {114, 228, (100 ^ 14) - 16, 228 - ((1 ^ 14) - 16)},
            {118, 236, 100 ^ 15, (236 - (1 ^ 15)) ^ 5},
            {232, 464, (100 ^ 16) - 36, 464 - ((1 ^ 16) - 36)},
            {117, 234 + (2 ^ 17), 100 ^ 17, 234 + (2 ^ 17) - (1 ^ 17) - 1}};
        for (int kind = 0; kind < 8; kind++) {
            for (int act = 0; act < 4; act++) {
                Due.due("act(" + (10 + kind) + ", " + act + ", 100)", x.act(10 + kind, act, 100), due[kind][act]);
            }
        }
        Due.due("wraps", x.act(10, 0, Integer.MAX_VALUE), Integer.MIN_VALUE + 9);
        Due.due("wraps at * 2", x.act(10, 1, Integer.MAX_VALUE), 18);
        Due.due("wraps at x + 1", x.act(13, 1, Integer.MAX_VALUE), -26);
        Due.due("a least int", x.act(12, 1, Integer.MIN_VALUE - 12 + (1 << 30)), Integer.MIN_VALUE);
        Due.due("x below 0", x.act(11, 0, -100), -86);
    }

    static void traces() {
        MachineWalks x = kinds();
        int[][][] due = {
            {{1}, {10, 1}, {11}, {2, 10, 1, 11}},
            {{20, 1}, {10, 20, 1}, {11}, {2, 10, 20, 1, 11}},
            {{1}, {30, 10, 1}, {11}, {2, 30, 10, 1, 11}},
            {{1}, {41, 30, 10, 1}, {40, 11}, {2, 41, 30, 10, 1, 40, 11}},
            {{1}, {10, 1}, {50, 11, 1}, {2, 10, 1, 50, 11, 1}},
            {{20, 1}, {10, 20, 1}, {11}, {60, 2, 10, 20, 1, 11}},
            {{70, 1}, {10, 70, 1}, {50, 11, 70, 1}, {2, 10, 70, 1, 50, 11, 70, 1}},
            {{1}, {80, 10, 1, 11}, {11}, {81, 2, 80, 10, 1, 11, 11}}};
        for (int kind = 0; kind < 8; kind++) {
            for (int act = 0; act < 4; act++) {
                x.act(10 + kind, act, 5);
                int[] ran = due[kind][act];
                String call = "act " + act + " of KIND " + kind + ", ";
                Due.due(call + "count(6)", x.count(6), ran.length);
                for (int i = 0; i < ran.length; i++) Due.due(call + "trace(" + i + ")", x.trace(i), ran[i]);
                Due.due(call + "trace behind the last", x.trace(ran.length), -1);
                Due.due(call + "trace(-1)", x.trace(-1), -1);
            }
        }
        Due.due("trace(24)", x.trace(24), -1);
        Due.due("trace of the greatest", x.trace(Integer.MAX_VALUE), -1);
        Due.due("trace of the least", x.trace(Integer.MIN_VALUE), -1);
    }

    static void refused() {
        MachineWalks x = kinds();
        int[][] bad = {{18, 0}, {-1, 0}, {50, 0}, {0, 4}, {0, -1}, {Integer.MIN_VALUE, 0}, {0, Integer.MAX_VALUE}};
        for (int[] b : bad) {
            x.act(17, 3, 5);
            Due.due("act(" + b[0] + ", " + b[1] + ")", x.act(b[0], b[1], 77), 0);
            Due.due("no bodies then", x.count(6), 0);
            Due.due("no TRACE then", x.trace(0), -1);
        }
    }
}
