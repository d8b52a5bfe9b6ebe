import java.util.HashSet;
import java.util.Set;
import java.util.function.IntToLongFunction;

/** Holds answers against a sentence of the document, and tells those that are not as due. */
final class Sentences {
    private static final int MOST_TOLD = 60;

    private String sentence = "";
    private final Set<String> sentences = new HashSet<>();
    private int wrong = 0;

    /** What follows is due by this sentence; place is the term or promise that it stands in. */
    void by(String place, String words) {
        sentence = place + ", \"" + words + "\"";
        sentences.add(sentence);
    }

    void due(String call, long got, long want) {
        if (got != want) {
            wrong++;
            if (wrong <= MOST_TOLD) {
                System.out.println(sentence + ": " + call + " answered " + told(got) + ", due is " + told(want));
            }
        }
    }

    void dueRow(String call, IntToLongFunction got, long... want) {
        for (int k = 0; k < want.length; k++) {
            due(call + " at " + k, got.applyAsLong(k), want[k]);
        }
    }

    private static String told(long answer) {
        return answer == Asked.THROWN ? "throws.NoSuchElementException" : Long.toString(answer);
    }

    void end() {
        System.out.println(wrong == 0 ? sentences.size() + " sentences hold" : wrong + " answers are not as due");
        if (wrong != 0) {
            System.exit(1);
        }
    }
}
