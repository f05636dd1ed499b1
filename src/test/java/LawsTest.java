/** Promises 11 to 13: the tape, laws and their faults, the water's law. */
final class LawsTest {
    public static void main(String[] args) {
        feed();
        values();
        faults();
        full();
        openAtOnce();
        water();
        waterLaws();
        Due.end();
    }

    static void feed() {
        MachineWalks x = new MachineWalks();
        int[] bad = {0, 5, -1, Integer.MIN_VALUE, Integer.MAX_VALUE};
        for (int n : bad) Due.due("feed(" + n + ")", x.feed(n, '1'), -1);
        // "123+4": the lowest byte first, those above n left out
        Due.due("feed(3)", x.feed(3, '1' | '2' << 8 | '3' << 16 | 'x' << 24), 3);
        Due.due("feed(1)", x.feed(1, -256 | '+'), 4);
        Due.due("feed(1)", x.feed(1, '4'), 5);
        Due.due("count(3)", x.count(3), 5);
        Due.due("law", x.law(), 0);
        Due.due("count(3) then", x.count(3), 0);
        x.floor(1, 909);
        Due.due("its worth", x.run(0, 100001, 0, 0), 127);
        for (int i = 1; i <= 29; i++) Due.due("fours", x.feed(4, -1), 4 * i);
        Due.due("two more", x.feed(2, 0), 118);
        Due.due("three are too many", x.feed(3, 0), -3);
        Due.due("four are too many", x.feed(4, 0), -3);
        Due.due("five are not a number", x.feed(5, 0), -1);
        Due.due("count(3)", x.count(3), 118);
        Due.due("the last two", x.feed(2, 0), 120);
        Due.due("one is too many", x.feed(1, 0), -3);
        Due.due("count(3)", x.count(3), 120);
        Due.due("the first byte is 255", x.law(), -100);
    }

    /** What a law gives as a RULE in the first TICK of an empty drum with goal 700. */
    static int worth(String text) {
        MachineWalks x = new MachineWalks();
        x.floor(999, 909);
        int law = Due.law(x, text);
        return law == 0 ? x.run(0, 700001, 0, 0) : law;
    }

    static void values() {
        String[] texts = {"5", "0", "9999/9", "0007", "g", "w+h+p+t+l+d+s+c+6", "2+3*4", "(2+3)*4", "700-20-1", "100/7/2",
            "100%7%2", "2*7/3", "2*(7/3)", "600+-7/2", "600+-7%4", "600+7/-2", "600+7%-4", "600+7/0", "600+7%0", "7|0", "0|0",
            "0|9", "7&9", "7&0", "0&9", "3<4", "4<4", "5<4", "3=4", "4=4", "3>4", "4>4", "5>4", "!0", "!5", "!!5", "--5",
            "600+!-0", "600-!7", "600--7", "-5", "1|0&0", "(1|0)&0", "1&2=2", "2=2&1", "1+1=2", "2<1+2", "!0+4", "!(0+4)",
            "-2+5", "600+-(2+5)", "-(-(9))", "1|1|1", "0|0|3", "3&2&1", "3&0&1", "1=1|5", "5;6", "0;6", "1?2;3", "0?2;3",
            "0?2", "1?0;3", "0?2;0?3;4", "0?2;0?3", "0?2;9?3;4", "g=700?8;9", "-1?5;6", "1<2?3+4;5", "600+(1<2)",
            "600+0?1;5", "(g>699)*3+(g<700)*5", "9*-1+20", "20-9*2", "1000+9*9"};
        int[] due = {5, 0, 1111, 7, 700, 6, 14, 20, 679, 7, 0, 4, 4, 597, 597, 597, 603, 600, 600, 1, 0,
            1, 1, 0, 0, 1, 0, 0, 0, 1, 0, 0, 1, 1, 0, 1, 5,
            601, 600, 607, 0, 1, 0, 1, 1, 1, 1, 5, 0,
            3, 593, 9, 1, 1, 1, 0, 1, 5, 0, 2, 3,
            0, 0, 4, 0, 3, 8, 5, 7, 601,
            1, 3, 11, 2, 1081};
        Due.due("as many texts as numbers", texts.length, due.length);
        for (int i = 0; i < texts.length && i < due.length; i++) {
            Due.due(texts[i], worth(texts[i]), due[i]);
        }
        Due.due("held above", worth("1201"), 1200);
        Due.due("held above", worth("9999"), 1200);
        Due.due("held below", worth("0-9999"), 0);
        // 2048 * 1024 * 1024 wraps to the least int, of which the half below 0 has no like above
        Due.due("wraps", worth("2048*1024*1024<0"), 1);
        Due.due("wraps at - O", worth("-(2048*1024*1024)<0"), 1);
        Due.due("wraps at /", worth("2048*1024*1024/-1<0"), 1);
        Due.due("wraps at %", worth("600+2048*1024*1024%-1"), 600);
        Due.due("wraps at +", worth("2048*1024*1024-1>0"), 1);
        Due.due("wraps at -", worth("2048*1024*1024-1+1<0"), 1);
        Due.due("wraps at *", worth("9999*9999*9999%1000+1000"), 9999 * 9999 * 9999 % 1000 + 1000);
        Due.due("| of what is not 1", worth("256|0"), 1);
        Due.due("& of bits apart", worth("1&2"), 1);
    }

    static void faults() {
        String[] texts = {"", "?", "w?", "12345", "w5", "5w", "(w", "(w;", "(w?1)", "w)", "w<1<2", "w=1>2", "w>1=2", "w?1?2",
            "w;", ";", "w;;", "w?;", "w ", " w", "x", "!", "-", "(", "w+", "+w", "w**w", "w&&w", "w||w", "w==w", "w-(", "()", "12(",
            "1.5", "ww", "w!", "W", "1;2?3;4?5?6", "(1<2<3)", "(1<2", "((1)", "(1))", "1;2;3)", "1+(2*3", "1?(2;3)", "w\u00ff",
            "\u0000", "(w)5", "(w)w", "!w5", "1<2&3<4<5", "1|2<3>4", "1<(2<3)<4", "1?2<3<4", "01234", "w?1;", "\u00b1"};
        int[] due = {0, 0, 2, 4, 1, 1, 2, 2, 2, 1, 3, 3, 3, 3,
            2, 0, 2, 2, 1, 0, 0, 1, 1, 1, 2, 0, 2, 2, 2, 2, 3, 1, 2,
            1, 1, 1, 0, 9, 4, 4, 4, 3, 5, 6, 4, 1,
            0, 3, 3, 2, 7, 5, 7, 5, 4, 4, 0};
        Due.due("as many texts as numbers", texts.length, due.length);
        for (int i = 0; i < texts.length && i < due.length; i++) {
            MachineWalks x = new MachineWalks();
            Due.due("FAULT of " + texts[i], Due.law(x, texts[i]), -100 - due[i]);
            Due.due("no law then", x.count(2), 0);
            Due.due("the tape is empty then", x.count(3), 0);
            Due.due("a law behind it", Due.law(x, "w"), 0);
        }
        String[] fine = {"1<2&3<4", "(1<2)<3", "1<(2<3)", "1<2?3<4;5<6?7<8", "1234", "0000", "w-w", "w--w", "w*-w",
            "w*!w", "!(w)", "((w))", "w?w", "w;w", "w?w;w?w;w", "1=1;2=2"};
        for (String f : fine) Due.due("no FAULT of " + f, Due.law(new MachineWalks(), f), 0);
        StringBuilder long120 = new StringBuilder("w");
        while (long120.length() < 119) long120.append("+w");
        Due.due("119 bytes", Due.law(new MachineWalks(), long120.toString()), 0);
        Due.due("120 bytes that end too early", Due.law(new MachineWalks(), long120 + "+"), -220);
        Due.due("120 bytes", Due.law(new MachineWalks(), "1" + long120), -101);
        Due.due("120 bytes", Due.law(new MachineWalks(), "-" + long120), 0);
        Due.due("120 steps", worth("-1" + "+1".repeat(59)), 58);
        Due.due("six brackets, a pending sign in each", worth("1+(1+(1+(1+(1+(1+(1*2))))))"), 8);
        Due.due("all signs pending in each", worth("0|1&2=1+1*(0|1&1=1+0*(1|1&1<1+1*(4)))"), 1);
        StringBuilder sum = new StringBuilder("10");
        while (sum.length() < 119) sum.append("+1");
        Due.due("a sum of 120 bytes", worth(sum.toString()), 69);
        StringBuilder lines = new StringBuilder();
        while (lines.length() < 116) lines.append("0?1;");
        Due.due("30 lines", worth(lines + "77"), 77);
        Due.due("60 lines", worth("0;".repeat(59) + "5"), 0);
    }

    static void openAtOnce() {
        String[] fine = {"!!!!!!w", "------w", "((((((w))))))", "-(-(-(w)))", "((((((w))))))+((((((w))))))", "!(!(!(w+w)))",
            "!w+!w+!w+!w+!w+!w+!w+!w", "(((((!w+!w)))))", "(((((-w)-w)-w)-w)-w)-!w", "!!!!!(w)*(w)", "!!!!!!w+!!!!!!w",
            "(((((w--w)))))"};
        for (String f : fine) Due.due(f, Due.law(new MachineWalks(), f), 0);
        String[] wrong = {"!!!!!!!w", "-------w", "(((((((w)))))))", "-(-(-(-w)))", "!(!(!(w+!w)))", "((((((w)+(w", "((((((w--w",
            "!!!!!!(w)", "!!!!!(!w)", "(((((!(w))))))", "(((((-(w", "(((((-w)+((("};
        int[] due = {6, 6, 6, 6, 8, 11, 8, 6, 6, 6, 6, 11};
        for (int i = 0; i < wrong.length; i++) {
            Due.due(wrong[i], Due.law(new MachineWalks(), wrong[i]), -100 - due[i]);
        }
        Due.due("a sign and five brackets hold", Due.law(new MachineWalks(), "!(((((w)))))"), 0);
        Due.due("a bracket that is closed is open no more", Due.law(new MachineWalks(), "(((((w)+(w)+!w))))"), 0);
    }

    static void full() {
        MachineWalks x = new MachineWalks();
        for (int i = 0; i < 4; i++) Due.due("law " + i, Due.law(x, "1" + i), i);
        Due.due("a fifth law", Due.law(x, "77"), -3);
        Due.due("its tape stays", x.count(3), 2);
        Due.tell(x, "?");
        Due.due("a fault, but it is full", x.law(), -3);
        Due.due("count(2)", x.count(2), 4);
        Due.due("count(3)", x.count(3), 3);
        x.floor(1, 909);
        for (int i = 0; i < 4; i++) Due.due("law " + i + " gives", x.run(10 * i, 100001, 0, 0), 10 + i);
        MachineWalks y = new MachineWalks();
        Due.law(y, "5");
        Due.law(y, "w?");
        y.floor(1, 909);
        Due.due("a fault leaves the laws that are there", y.run(0, 100001, 0, 0), 5);
        Due.due("and is none itself", y.run(10, 100001, 0, 0), -1);
    }

    static void water() {
        MachineWalks x = new MachineWalks();
        Due.due("water(0) of none", x.water(0), -2000000000);
        Due.law(x, "1");
        Due.law(x, "2");
        Due.due("water(1)", x.water(1), -1);
        Due.due("water(0)", x.water(0), 1);
        int[] bad = {2, -2, 4, Integer.MIN_VALUE, Integer.MAX_VALUE};
        for (int b : bad) Due.due("water(" + b + ")", x.water(b), -2000000000);
        Due.due("water(-1)", x.water(-1), 0);
        Due.due("water(-1)", x.water(-1), -1);
    }

    /** WET behind one TICK at PACE 600 of a LUMP: DRY 10, WET 50, ANGLE 0, HOLDS 7. */
    static int wetBehind(String law) {
        MachineWalks x = new MachineWalks();
        x.lump(1050, 7);
        x.floor(999, 909);
        Due.law(x, "600");
        if (!law.isEmpty()) x.water(Due.law(x, law));
        x.run(0, 700001, 0, 0);
        return x.did(1);
    }

    static void waterLaws() {
        Due.due("none: WET PACE / 6000", wetBehind(""), 45);
        String[] laws = {"0", "1", "50", "51", "9999", "-1", "w/3", "h", "p/100", "t+1", "l", "d+g", "s+2", "c+3", "0?4"};
        int[] due = {50, 49, 0, 0, 0, 50, 34, 43, 44, 49, 0, 50, 48, 47, 50};
        for (int i = 0; i < laws.length; i++) Due.due("WET by " + laws[i], wetBehind(laws[i]), due[i]);
        Due.due("l is LOPSIDED ahead of it", wetBehind("l-20"), 10);
    }
}
