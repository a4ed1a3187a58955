import java.io.IOException;
import java.nio.file.Files;
import java.nio.file.Path;
import java.util.Set;

/** The document's words, its terms and all promises: each of them must be told by a test. */
final class Document {
    private static final Path PLACE = Path.of("..", "shared", "DOC.md");

    private Document() {
    }

    static void compare(Due due, Set<String> sentences) throws IOException {
        if (!Files.exists(PLACE)) {
            System.out.println(PLACE + " is not there, so its words are not compared");
            return;
        }
        String text = words(Files.readString(PLACE));
        boolean[] told = new boolean[text.length()];
        for (String sentence : sentences) {
            int at = text.indexOf(sentence);
            boolean once = at >= 0 && text.indexOf(sentence, at + 1) < 0;
            due.holds("the document has these words just once: " + sentence, once);
            for (int i = at; at >= 0 && i < at + sentence.length(); i++) {
                told[i] = true;
            }
        }
        StringBuilder left = new StringBuilder();
        for (int i = 0; i < told.length; i++) {
            left.append(told[i] ? ' ' : text.charAt(i));
        }
        due.is("words of the document without a test", left.toString().replaceAll("\\s+", " ").strip(), "");
    }

    /** Without headings, faces of methods and fences, and with one space between words. */
    private static String words(String whole) {
        String use = whole.substring(whole.indexOf("An object is"), whole.indexOf("## The public face"));
        String rest = whole.substring(whole.indexOf("## Terms"), whole.indexOf("## Not promised"));
        return (use + "\n" + rest)
            .replaceAll("(?m)^#.*$", " ")
            .replaceAll("(?m)^```.*$", " ")
            .replaceAll("(?m)^`[^`]*`: ", " ")
            .replaceAll("\\s+", " ");
    }
}
