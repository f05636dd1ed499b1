import java.nio.file.Files;
import java.nio.file.Path;
import java.util.List;
import java.util.TreeSet;

/** The document sentence by sentence, both sides of each boundary; and no words of its Terms and promises without a test. */
final class SentencesTest {
    /** What the document leaves free has no test. */
    private static final String FREE = "what later calls answer is free.";

    public static void main(String[] args) throws Exception {
        LumpSentences.all();
        LawSentences.all();
        RunSentences.all();
        ThoughtSentences.all();
        ActSentences.all();
        ShelfSentences.all();
        AnswerSentences.all();
        List<Due.Stood> stood = Due.stood();
        somethingIsAsked(stood);
        everyPromise(stood);
        Path path = Path.of("../shared/DOC.md");
        if (Files.exists(path)) allWords(stood, new Doc(path));
        System.out.println("     " + stood.size() + " sentences");
        Due.end();
    }

    static void somethingIsAsked(List<Due.Stood> stood) {
        int last = Due.asked();
        for (int i = 0; i < stood.size(); i++) {
            int to = i + 1 < stood.size() ? stood.get(i + 1).from : last;
            Due.holds("something is asked of \"" + stood.get(i).sentence + "\"", to > stood.get(i).from);
        }
    }

    static void everyPromise(List<Due.Stood> stood) {
        TreeSet<Integer> promises = new TreeSet<>();
        for (Due.Stood s : stood) {
            for (int p : s.promises) promises.add(p);
        }
        for (int p = 1; p <= 36; p++) Due.holds("promise " + p + " has a sentence", promises.contains(p));
        Due.due("promises", promises.size(), 36);
    }

    static void allWords(List<Due.Stood> stood, Doc doc) {
        for (Due.Stood s : stood) {
            Due.holds("\"" + s.sentence + "\" stands in the document", doc.cover(s.sentence, s.promises));
        }
        for (String bare : doc.bare()) {
            Due.holds("a test stands for " + bare, bare.contains("====") || bare.endsWith(FREE) || bare.endsWith(": , and"));
        }
    }
}
