/** Counts the answers that are not as due; a test ends with end(). */
final class Due {
    private static int wrong = 0;
    private static int asked = 0;

    private Due() {
    }

    static void due(String call, long got, long want) {
        asked++;
        if (got != want) {
            wrong++;
            if (wrong <= 40) System.out.println(call + " answered " + got + ", due is " + want);
        }
    }

    static void holds(String what, boolean is) {
        due(what, is ? 1 : 0, 1);
    }

    /** Feeds a text to the tape, a byte a call, as the tests of laws need whole texts. */
    static void tell(MachineWalks x, String text) {
        for (int i = 0; i < text.length(); i++) x.feed(1, text.charAt(i));
    }

    static int law(MachineWalks x, String text) {
        tell(x, text);
        return x.law();
    }

    static void end() {
        if (wrong != 0) {
            System.out.println(wrong + " of " + asked + " answers are not as due");
            System.exit(1);
        }
        System.out.println("     " + asked + " answers as due");
    }
}
