/** Sentences of Terms 1 (the tape, laws, what they are for), and of promises 11 to 13: each method stands for one. */
final class LawSentences {
    private static final int MIN = Integer.MIN_VALUE, MAX = Integer.MAX_VALUE;

    private LawSentences() {
    }

    static void all() {
        tapeOf120();
        feed();
        lawsOf4();
        law();
        numberOfALaw();
        tapeIsEmptyThen();
        fullTapeStays();
        water();
        lines();
        line();
        either();
        both();
        comparison();
        sums();
        products();
        operands();
        noBlanks();
        names();
        ticksWithoutTumble();
        tumbledAnew();
        sixOpen();
        intsThatWrap();
        towardZero();
        oneOrZero();
        allIsWorkedOut();
        firstLineThatCounts();
        faultPlace();
        faultAtTheLength();
        watersLaw();
        withoutWatersLaw();
        rule();
    }

    /** What a text gives as a RULE in the first TICK of an empty drum, to the GOAL 700: p, t, d, s, c are 0. */
    static void gives(String text, long due) {
        Asked x = new Asked();
        x.floor(999, 909);
        x.law(text).is(0);
        x.run(0, 700001, 0, 0).is(due);
    }

    static void fault(String text, int place) {
        Asked x = new Asked();
        x.law(text).is(-100 - place);
        x.count(2).is(0);
    }

    static void isLaw(String text) {
        new Asked().law(text).is(0);
    }

    static String times(int n, String text) {
        return text.repeat(n);
    }

    static void tapeOf120() {
        Due.stands("by THE TAPE (at most 120 bytes):", 11, 12);
        for (int there = 116; there <= 120; there++) {
            for (int n = 1; n <= 4; n++) {
                Asked x = new Asked().feed(times(there, "1"));
                boolean fits = there + n <= 120;
                x.feed(n, 0).is(fits ? there + n : -3);
                x.count(3).is(fits ? there + n : there);
            }
        }
        isLaw("-1" + times(59, "+1"));
    }

    static void feed() {
        Due.stands("n (1 .. 4) bytes come to THE TAPE, the lowest of v first: how many it has. BAD, FULL.", 11);
        Asked x = new Asked();
        int[] bad = {0, 5, -1, MIN, MAX};
        for (int n : bad) x.feed(n, '1').is(-1);
        x.count(3).is(0);
        x.feed(1, 0x33333331).is(1);
        x.feed(4, '2' | '3' << 8 | '4' << 16 | '/' << 24).is(5);
        x.feed(2, 0xffff0000 | '2' | '+' << 8).is(7);
        x.feed(3, '5' | '+' << 8 | '6' << 16).is(10);
        x.law().is(0);
        x.floor(999, 909);
        x.run(0, 700001, 0, 0).is(1234 / 2 + 5 + 6);
        for (int i = 1; i <= 30; i++) x.feed(4, MIN).is(4 * i);
        x.feed(1, 0).is(-3);
        x.feed(4, 0).is(-3);
        x.feed(5, 0).is(-1);
        x.feed(0, 0).is(-1);
        x.count(3).is(120);
    }

    static void lawsOf4() {
        Due.stands("LAWS 0 .. 3", 12, 36);
        Asked x = new Asked();
        x.floor(999, 909);
        for (int i = 0; i < 4; i++) {
            x.run(10 * i, 700001, 0, 0).is(-1);
            x.law("50" + i).is(i);
            x.count(2).is(i + 1);
        }
        x.law("504").is(-3);
        x.count(2).is(4);
        for (int i = 0; i < 4; i++) x.run(10 * i, 700001, 0, 0).is(500 + i);
        x.run(40, 700001, 0, 0).is(-1);
    }

    static void law() {
        Due.stands("-100 less its FAULT;", 12);
        fault("", 0);
        fault("w)", 1);
        fault("1" + times(59, "+1") + "?", 120);
        Asked x = new Asked();
        x.law("1").is(0);
        x.law("1?").is(-102);
        x.law("2").is(1);
    }

    static void numberOfALaw() {
        Due.stands("THE TAPE becomes a LAW: its number;", 12);
        Asked x = new Asked();
        x.floor(999, 909);
        x.law("7").is(0);
        x.feed("8");
        x.run(10, 700001, 0, 0).is(-1);
        x.law().is(1);
        x.run(0, 700001, 0, 0).is(7);
        x.run(10, 700001, 0, 0).is(8);
        x.run(20, 700001, 0, 0).is(-1);
    }

    static void tapeIsEmptyThen() {
        Due.stands("THE TAPE is empty then.", 12);
        Asked x = new Asked();
        x.law("12").is(0);
        x.count(3).is(0);
        x.law("12)").is(-102);
        x.count(3).is(0);
        x.law().is(-100);
        x.law("34").is(1);
        x.floor(999, 909);
        x.run(10, 700001, 0, 0).is(34);
        // nothing of a text with a FAULT comes into the next LAW
        x.law("5;1?6;x").is(-106);
        x.law("56").is(2);
        x.run(20, 700001, 0, 0).is(56);
        x.law("0?7;1?").is(-106);
        x.law("0?8").is(3);
        x.run(30, 700001, 0, 0).is(0);
    }

    static void fullTapeStays() {
        Due.stands("FULL (it stays).", 12);
        Asked x = new Asked();
        for (int i = 0; i < 3; i++) x.law("1").is(i);
        x.feed("12");
        x.law().is(3);
        x.count(3).is(0);
        x.law().is(-3);
        x.feed("12");
        x.law().is(-3);
        x.count(3).is(2);
        x.feed("?");
        x.law().is(-3);
        x.count(3).is(3);
    }

    static void water() {
        Due.stands("A LAW (-1: none) is THE WATER's: which was. BAD: VOID.", 13);
        Asked x = new Asked();
        x.water(0).is(-2000000000);
        x.water(-1).is(-1);
        x.law("1");
        x.law("2");
        x.water(2).is(-2000000000);
        x.water(-2).is(-2000000000);
        x.water(MIN).is(-2000000000);
        x.water(MAX).is(-2000000000);
        x.water(1).is(-1);
        x.water(0).is(1);
        x.water(2).is(-2000000000);
        x.water(-1).is(0);
        x.water(-1).is(-1);
    }

    static void lines() {
        Due.stands("LINES, one or more, parted by ;", 12);
        fault("", 0);
        gives("5", 5);
        gives("0?1;5", 5);
        gives("0?1;0?2;5", 5);
        gives(times(29, "0?1;") + "600", 600);
        gives(times(59, "1;") + "2", 1);
        fault(";1", 0);
        fault("1;;1", 2);
        fault(times(60, "1;"), 120);
    }

    static void line() {
        Due.stands("LINE: E, or E ? E (what counts if the first is not 0).", 12);
        gives("5", 5);
        gives("1?5;6", 5);
        gives("-1?5;6", 5);
        gives("0?5;6", 6);
        gives("0|2?5;6", 5);
        gives("1?0|2;6", 1);
        gives("1?0|0;6", 0);
        gives("1?4-2*3+9&1|0;6", 1);
        fault("1?2?3", 3);
        fault("?1", 0);
        fault("(1?2)", 2);
        fault("1?;2", 2);
    }

    static void either() {
        Due.stands("E = A { | A }.", 12);
        gives("5", 5);
        gives("0|0", 0);
        gives("0|1", 1);
        gives("1|0", 1);
        gives("0|0|0|1", 1);
        fault("|1", 0);
        fault("1||1", 2);
        fault("1|", 2);
    }

    static void both() {
        Due.stands("A = B { & B }.", 12);
        gives("5", 5);
        gives("1&1", 1);
        gives("0&1", 0);
        gives("1&0", 0);
        gives("1&1&1&1", 1);
        gives("1&1&1&0", 0);
        gives("1|0&0", 1);
        fault("&1", 0);
        fault("1&&1", 2);
        fault("1&", 2);
    }

    static void comparison() {
        Due.stands("B = S, or S < S, S = S, S > S.", 12);
        int[][] due = {{1, 0, 0}, {0, 1, 0}, {0, 0, 1}};
        String signs = "<=>";
        for (int k = 0; k < 3; k++) {
            for (int a = 4; a <= 6; a++) gives(a + "" + signs.charAt(k) + "5", due[k][a - 4]);
            for (int m = 0; m < 3; m++) fault("1" + signs.charAt(k) + "2" + signs.charAt(m) + "3", 3);
            fault(signs.charAt(k) + "1", 0);
            fault("1" + signs.charAt(k), 2);
        }
        gives("1<2&3<4", 1);
        gives("(1<2)<3", 1);
        gives("1+1=2", 1);
        gives("0-1<0", 1);
    }

    static void sums() {
        Due.stands("S = P { + P, - P }.", 12);
        gives("5", 5);
        gives("9-3-2", 4);
        gives("9-3+2", 8);
        gives("9+3-2+1", 11);
        gives("2+3*4", 14);
        fault("+1", 0);
        fault("1++1", 2);
        fault("1-", 2);
    }

    static void products() {
        Due.stands("P = O { * O, / O, % O }.", 12);
        gives("100/10/2", 5);
        gives("100/10*2", 20);
        gives("100%7%2", 0);
        gives("2*3*4*5", 120);
        gives("2*-3+9", 3);
        fault("*1", 0);
        fault("1**1", 2);
        fault("1/", 2);
    }

    static void operands() {
        Due.stands("O = a number (1 to 4 digits), a NAME, ! O, - O, ( E ).", 12);
        for (int sign = 0; sign < 256; sign++) {
            boolean begins = "!-(".indexOf(sign) >= 0;
            if (sign >= '0' && sign <= '9' || "whptldgsc".indexOf(sign) >= 0) isLaw("" + (char) sign);
            else fault("" + (char) sign, begins ? 1 : 0);
        }
        gives("9", 9);
        gives("0012", 12);
        gives("9999/9", 1111);
        everyNumber();
        fault("12345", 4);
        fault("00000", 4);
        fault("1w", 1);
        fault("w1", 1);
        fault("tp", 1);
        fault("()", 1);
        gives("(5)", 5);
        gives("!(5)", 0);
        gives("--5", 5);
        fault("(5", 2);
        fault("5)", 1);
        fault("(5;5)", 2);
    }

    /** Each number stands for itself, and for nothing else: its first digits by a RULE, its last one by another. */
    private static void everyNumber() {
        for (int n = 0; n < 10000; n += 2) {
            Asked x = new Asked();
            x.floor(999, 909);
            for (int k = 0; k < 2; k++) {
                x.law(n + k + "/10").is(2 * k);
                x.law(n + k + "%10").is(2 * k + 1);
            }
            for (int k = 0; k < 2; k++) {
                x.run(20 * k, 700001, 0, 0).is((n + k) / 10);
                x.run(20 * k + 10, 700001, 0, 0).is((n + k) % 10);
            }
        }
    }

    static void noBlanks() {
        Due.stands("No blanks.", 12);
        fault(" 1", 0);
        fault("1 ", 1);
        fault("1 +1", 1);
        fault("1+ 1", 2);
        fault("1;\n1", 2);
        fault("\t1", 0);
        isLaw("1+1");
    }

    /** WET behind one TICK at PACE 600 of a LUMP: DRY 10, WET 50, ANGLE 0, HOLDS 7, LOPSIDED 60. */
    static void wetBehind(String law, int due) {
        Asked x = new Asked().lump(1050, 7);
        x.floor(999, 909);
        x.law("600");
        x.law(law).is(1);
        x.water(1);
        x.run(0, 700001, 0, 0);
        x.did(1).is(due);
    }

    static void names() {
        Due.stands("NAMES: w WET, h HOLDS, p PACE, t the TICK, l LOPSIDED, d what is SEEN, g the GOAL,", 12, 14);
        wetBehind("w-20", 20);
        wetBehind("h", 43);
        wetBehind("p/20", 20);
        wetBehind("l-50", 40);
        wetBehind("t+1", 49);
        Asked x = new Asked().lump(5050, 0);
        x.floor(999, 909);
        x.law("g/2+d+t+1");
        x.run(0, 800002, 0, 0);
        x.led(0, 0).is(501);
        x.led(1, 0).is(400 + 96 + 1 + 1);
        String none = "abefijkmnoqruvxyzWHPTLDGSC";
        for (int i = 0; i < none.length(); i++) fault("" + none.charAt(i), 0);
    }

    static void ticksWithoutTumble() {
        Due.stands("s how many TICKS ahead without a break it did not TUMBLE,", 14);
        Asked x = new Asked();
        x.floor(999, 909);
        x.law("t%4=3?59;60+s");
        x.run(0, 700010, 0, 0);
        int[] due = {60, 61, 62, 59, 60, 61, 62, 59, 60, 61};
        for (int t = 0; t < 10; t++) x.led(t, 0).is(due[t]);
    }

    static void tumbledAnew() {
        Due.stands("c how often it tumbled anew.", 14);
        Asked x = new Asked();
        x.floor(999, 909);
        x.law("(t=1)+(t=2)+(t=4)?0;60+c");
        x.run(0, 700007, 0, 0);
        int[] due = {60, 0, 0, 61, 0, 62, 62};
        for (int t = 0; t < 7; t++) x.led(t, 0).is(due[t]);
    }

    static void sixOpen() {
        Due.stands("At most 6 of ( ! - ahead of an O are open at once.", 12);
        String[] six = {"((((((1))))))", "!!!!!!1", "------1", "(!-(!-1))", "-(((((1)))))", "(((((!1)))))", "!!!!!(1)"};
        for (String s : six) {
            isLaw(s);
            isLaw("1?" + s);
            isLaw(s + "?1;" + s);
        }
        String[] seven = {"(((((((1)))))))", "!!!!!!!1", "-------1", "(!-(!-(1)))", "-((((((1))))))", "((((((!1))))))", "!!!!!!(1)",
            "((((((-1))))))"};
        for (String s : seven) {
            fault(s, 6);
            fault("1?" + s, 8);
            fault("1;" + s, 8);
        }
        fault("1+(((((((1", 8);
        // those that are closed are open no more; those that stand between two O are not ahead of one
        isLaw("((((((1))))))+((((((1))))))");
        isLaw("!!!!!!1+!!!!!!1");
        isLaw("(((((!1)+!1)+!1)+!1)+!1)+!1");
        isLaw("((((((1-1))))))");
        isLaw("------1-1");
        fault("(((((!1+!!1", 9);
        fault("((((((1--1", 8);
        fault("(((((1+(1+(", 10);
    }

    static void intsThatWrap() {
        Due.stands("Ints that wrap;", 12);
        // 2048 * 1024 * 1024 is the least int
        gives("2048*1024*1024<0", 1);
        gives("2048*1024*1023>0", 1);
        gives("2048*1024*1024-1>0", 1);
        gives("2048*1024*1024-1+1<0", 1);
        gives("-(2048*1024*1024)<0", 1);
        gives("2048*1024*1024/-1<0", 1);
        gives("2048*1024*1024%-1+5", 5);
        gives("2048*1024*1024*2+6", 6);
        // what is compared does not wrap
        gives("2048*1024*1024<1", 1);
        gives("1>2048*1024*1024", 1);
        gives("2048*1024*1024-1<-1", 0);
        gives("-1>2048*1024*1024-1", 0);
        gives("9999*9999*9999%1000+1000", 9999 * 9999 * 9999 % 1000 + 1000);
    }

    static void towardZero() {
        Due.stands("/ and % toward 0, by 0 they give 0;", 12);
        gives("600+7/2", 603);
        gives("600+-7/2", 597);
        gives("600+7/-2", 597);
        gives("600+-7/-2", 603);
        gives("600+7%4", 603);
        gives("600+-7%4", 597);
        gives("600+7%-4", 603);
        gives("600+-7%-4", 597);
        gives("600+7/0", 600);
        gives("600+7%0", 600);
        gives("600+0/0", 600);
        gives("600+7/1", 607);
        gives("600+7/-1", 593);
        gives("600+7%1", 600);
    }

    static void oneOrZero() {
        Due.stands("| & < = > ! give 1, 0;", 12);
        gives("5|0", 1);
        gives("0|-5", 1);
        gives("256|256", 1);
        gives("0|0", 0);
        gives("5&2", 1);
        gives("-5&256", 1);
        gives("5&0", 0);
        gives("4<5", 1);
        gives("5<5", 0);
        gives("5=5", 1);
        gives("5=4", 0);
        gives("5>4", 1);
        gives("5>5", 0);
        gives("!0", 1);
        gives("!1", 0);
        gives("!5", 0);
        gives("!-1", 0);
        // 0 and nothing below it
        String[] none = {"0|0", "5&0", "0&0", "5<5", "5=4", "5>5", "!1", "!-1"};
        for (String n : none) gives("600+(" + n + ")", 600);
    }

    static void allIsWorkedOut() {
        Due.stands("all is worked out.", 12);
        gives("1|1/0", 1);
        gives("0&1%0", 0);
        gives("0?1/0;1%0;7", 0);
        gives("(1|5)+(0&5)+600", 601);
    }

    static void firstLineThatCounts() {
        Due.stands("The first LINE without a first E, or whose first E is not 0, counts; none: 0.", 12);
        gives("5;6", 5);
        gives("0;6", 0);
        gives("0?5;6;7", 6);
        gives("0?5;1?6;7", 6);
        gives("0?5;0?6;7", 7);
        gives("1?0;7", 0);
        gives("-1?5", 5);
        gives("0?5", 0);
        gives("0?5;0?6", 0);
    }

    static void faultPlace() {
        Due.stands("FAULT: the place (from 0) of the first byte with which no TEXT goes on;", 12);
        fault(")", 0);
        fault("1)", 1);
        fault("1+)", 2);
        fault("1?2?", 3);
        fault("1;2;3;x", 6);
        fault("(1))", 3);
        // both are wrong: the first of them
        fault("x)", 0);
        fault("12345)", 4);
        fault(times(59, "1+") + "x1", 118);
        fault(times(59, "1+") + "1x", 119);
    }

    static void faultAtTheLength() {
        Due.stands("the length, if it ends too early.", 12);
        fault("", 0);
        fault("(", 1);
        fault("1+", 2);
        fault("1?", 2);
        fault("1;", 2);
        fault("(1", 2);
        fault("!-(", 3);
        fault("1?2;3+", 6);
        fault(times(59, "1+") + "(", 119);
        fault(times(60, "1+"), 120);
    }

    static void watersLaw() {
        Due.stands("THE WATER's law: how much of a LUMP's WET leaves in a TICK (held within 0 .. WET;", 12, 13, 14);
        wetBehind("-1", 50);
        wetBehind("0", 50);
        wetBehind("1", 49);
        wetBehind("49", 1);
        wetBehind("50", 0);
        wetBehind("51", 0);
        wetBehind("2048*1024*1024", 50);
        wetBehind("2048*1024*1024-1", 0);
    }

    static void withoutWatersLaw() {
        Due.stands("without one: WET PACE / 6000 (cut)).", 13, 14);
        int[][] wetPaceBehind = {{99, 60, 99}, {50, 119, 50}, {50, 120, 49}, {49, 120, 49}, {5, 1199, 5}, {5, 1200, 4}, {99, 1200, 80},
            // 5999 and 6001, 11999 and 12001 by 6000
            {7, 857, 7}, {17, 353, 16}, {13, 923, 12}, {11, 1091, 9}};
        for (int[] w : wetPaceBehind) {
            Asked x = new Asked().lump(100 + w[0], 9);
            x.floor(999, 909);
            x.law("" + w[1]);
            x.run(0, 700001, 0, 0).is(w[1]);
            x.did(1).is(w[2]);
            x.water(0);
            x.water(-1);
            x.run(0, 700001, 0, 0);
            x.did(1).is(w[2]);
        }
    }

    static void rule() {
        Due.stands("A RULE: the next PACE (held within 0 .. 1200).", 12, 14);
        gives("-1", 0);
        gives("0", 0);
        gives("1", 1);
        gives("1199", 1199);
        gives("1200", 1200);
        gives("1201", 1200);
        gives("2048*1024*1024", 0);
        gives("2048*1024*1024-1", 1200);
    }
}
