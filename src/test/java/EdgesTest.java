import java.nio.file.Files;
import java.nio.file.Path;
import java.util.List;
import java.util.Map;

/**
 * Each sentence of the document that names a bound or a refusal, with tests of its own: see Sentences.
 * At the end the words that the tests quote are held against the document: all of them stand there, and
 * no words of the terms or of a promise are left that no test quotes.
 */
public final class EdgesTest {
    private static final Tally TALLY = new Tally("EdgesTest");

    public static void main(String[] args) throws Exception {
        Sentences s = new Sentences(TALLY);
        RefusalEdges.hold(s);
        TermsEdges.hold(s);
        PadEdges.hold(s);
        ActsEdges.hold(s);
        NodesEdges.hold(s);
        CountsEdges.hold(s);
        RunsEdges.hold(s);
        quotes(Files.readString(Path.of(System.getProperty("keyedtree.document", "../shared/DOC.md"))), s.quotes());
        TALLY.end();
    }

    private static void quotes(String document, Map<String, List<String>> quotes) {
        for (String part : document.split("(?m)^## ")) {
            String heading = part.lines().findFirst().orElse("").strip();
            boolean whole = heading.equals("Terms") || heading.startsWith("Promise ");
            if (whole || quotes.containsKey(heading)) {
                String words = words(part.substring(Math.min(part.length(), heading.length())));
                holdQuotes(heading, words, quotes.getOrDefault(heading, List.of()), whole);
            }
        }
        for (String heading : quotes.keySet()) {
            TALLY.must("the document has a part " + heading, document.contains("\n## " + heading + "\n"));
        }
    }

    /** The words alone: no fences, no numbers of parts, no face of a call, nothing of how the interface is written. */
    private static String words(String part) {
        return part.replaceAll("(?s)\nAhead of the calls.*", "")
            .replaceAll("(?m)^```.*$", "").replaceAll("======== \\d", "")
            .replaceAll("`\\w+ \\w+\\([^`]*\\)`:|`KeyedTree\\(\\)`:", "")
            .replace("`", "").replaceAll("\\s+", " ").strip();
    }

    private static void holdQuotes(String heading, String words, List<String> quotes, boolean whole) {
        StringBuilder left = new StringBuilder(words);
        for (String quote : quotes) {
            int at = words.indexOf(quote);
            TALLY.must("under " + heading + " stands \"" + quote + "\"", at >= 0);
            for (; at >= 0; at = words.indexOf(quote, at + 1)) {
                for (int i = at; i < at + quote.length(); i++) {
                    left.setCharAt(i, ' ');
                }
            }
        }
        if (whole) {
            String rest = left.toString().replace("The constants:", "").replaceAll("[\\s:;.,]+", " ").strip();
            TALLY.must("under " + heading + " no test quotes \"" + rest + "\"", rest.isEmpty());
        }
    }
}
