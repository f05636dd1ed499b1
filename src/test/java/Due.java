import java.util.ArrayList;
import java.util.List;
import java.util.TreeSet;

/** Counts the answers that are not as due; a test ends with end(). */
final class Due {
    private static int wrong = 0;
    private static int asked = 0;
    private static String sentence = "";
    private static final List<Stood> STOOD = new ArrayList<>();

    /** A sentence of the document and the promises it was tested by; asked: how many answers. */
    static final class Stood {
        final String sentence;
        final int[] promises;
        final int from;

        Stood(String sentence, int[] promises, int from) {
            this.sentence = sentence;
            this.promises = promises;
            this.from = from;
        }
    }

    private Due() {
    }

    static void due(String call, long got, long want) {
        asked++;
        if (got != want) {
            wrong++;
            if (wrong <= 40) System.out.println(sentence + call + " answered " + got + ", due is " + want);
        }
    }

    static void holds(String what, boolean is) {
        due(what, is ? 1 : 0, 1);
    }

    /** What is asked from here on stands for this sentence, as it is seen through calls of these promises. */
    static void stands(String words, int... promises) {
        TreeSet<Integer> in = new TreeSet<>();
        for (int p : promises) in.add(p);
        STOOD.add(new Stood(words, promises, asked));
        sentence = "Promises " + in + ", \"" + words + "\": ";
    }

    /** Ends the last sentence: what is asked from here on stands for none. */
    static List<Stood> stood() {
        sentence = "";
        return STOOD;
    }

    static int asked() {
        return asked;
    }

    /** Feeds a text to the tape, a byte a call, as the tests of laws need whole texts. */
    static void tell(MachineWalks x, String text) {
        for (int i = 0; i < text.length(); i++) x.feed(1, text.charAt(i));
    }

    static int law(MachineWalks x, String text) {
        tell(x, text);
        return x.law();
    }

    static void end() {
        if (wrong != 0) {
            System.out.println(wrong + " of " + asked + " answers are not as due");
            System.exit(1);
        }
        System.out.println("     " + asked + " answers as due");
    }
}
