import java.util.LinkedHashSet;
import java.util.Set;

/** Counts answers, prints those that are not due, and ends with exit code 1 if there was one. */
final class Due {
    // a broken class may answer wrongly very often; the first lines tell enough
    private static final int LINES = 200;

    private final Set<String> sentences = new LinkedHashSet<>();
    private String sentence = "";
    private int wrong;
    private int right;

    /** The document's words that the answers from here on are due by. */
    void by(String... words) {
        sentence = String.join(" / ", words);
        sentences.addAll(Set.of(words));
    }

    Set<String> sentences() {
        return sentences;
    }

    void is(String call, long got, long want) {
        is(call, Long.toString(got), Long.toString(want));
    }

    void is(String call, String got, String want) {
        if (got.equals(want)) {
            right++;
            return;
        }
        wrong++;
        if (wrong <= LINES) {
            String words = sentence.isEmpty() ? "" : "\"" + sentence + "\": ";
            System.out.println(words + call + " answered " + got + ", due is " + want);
        }
    }

    void holds(String what, boolean yes) {
        is(what, yes ? "yes" : "no", "yes");
    }

    void end() {
        System.out.println(right + " answers as due, " + wrong + " not");
        if (wrong > 0) {
            System.exit(1);
        }
    }
}
