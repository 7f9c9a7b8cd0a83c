import java.nio.charset.StandardCharsets;
import java.nio.file.Files;
import java.nio.file.Path;
import java.util.LinkedHashSet;
import java.util.Set;
import java.util.TreeMap;

/**
 * The document's sentences, by promise (0: its Terms): a test says which one it is about, so that none is
 * left without a test of its own, and none is told that the document doesn't have.
 */
final class Doc {
    static final int TERMS = 0;
    private static final int PROMISES = 48;

    private static final TreeMap<Integer, Set<String>> SENTENCES = new TreeMap<>();
    private static final TreeMap<Integer, Set<String>> SAID = new TreeMap<>();
    private static String about = "";

    private Doc() {
    }

    /** Reads the document beside the project's folder; without a folder no sentence is looked at. */
    static void open(String[] args) throws Exception {
        if (args.length == 0) {
            return;
        }
        String text = Files.readString(Path.of(args[0], "../shared/DOC.md"), StandardCharsets.UTF_8);
        SENTENCES.put(TERMS, sentences(between(text, "## Terms\n", "Ahead of the calls").replaceAll("(?m)^\\d\\. ", "")));
        for (int promise = 1; promise <= PROMISES; promise++) {
            String section = between(text, "## Promise " + promise + ": ", "\n## ");
            SENTENCES.put(promise, sentences(section.substring(section.indexOf("`: ") + 3)));
        }
    }

    private static String between(String text, String begin, String end) {
        int from = text.indexOf(begin) + begin.length();
        return text.substring(from, text.indexOf(end, from));
    }

    private static Set<String> sentences(String text) {
        String plain = text.replaceAll("```(text)?", " ").replaceAll("\\s+", " ").strip();
        Set<String> found = new LinkedHashSet<>();
        // ".." stands within a sentence.
        for (String sentence : plain.split("(?<=[^.])\\.( (?=[A-Z])|$)")) {
            found.add(sentence);
        }
        return found;
    }

    /** What comes next is about this sentence. */
    static void says(int promise, String sentence) {
        about = (promise == TERMS ? "Terms" : "promise " + promise) + ", '" + sentence + "': ";
        SAID.computeIfAbsent(promise, p -> new LinkedHashSet<>()).add(sentence);
        if (!SENTENCES.isEmpty()) {
            Check.due(about + "in the document", SENTENCES.get(promise).contains(sentence) ? 1 : 0, 1);
        }
    }

    static void due(String call, long got, long want) {
        Check.due(about + call, got, want);
    }

    /** Looks whether each sentence of these promises was said. */
    static void allSaid(int from, int to) {
        if (SENTENCES.isEmpty()) {
            return;
        }
        for (int promise = from; promise <= to; promise++) {
            for (String sentence : SENTENCES.get(promise)) {
                boolean said = SAID.containsKey(promise) && SAID.get(promise).contains(sentence);
                Check.due("promise " + promise + " has a test of '" + sentence + "'", said ? 1 : 0, 1);
            }
        }
    }
}
