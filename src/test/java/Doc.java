import java.io.IOException;
import java.nio.file.Files;
import java.nio.file.Path;
import java.util.ArrayList;
import java.util.List;

/** The document's sentences, from its terms to its last promise; a test names the one that it is for. */
final class Doc {
    private static final String DOCUMENT = "../shared/DOC.md";
    private static final List<String> SENTENCES = read();
    private static final boolean[] TESTED = new boolean[SENTENCES.size()];

    private Doc() {
    }

    /** Marks the one sentence of a section that begins so; a test that names none, or two, fails. */
    static String tested(String section, String beginning) {
        int found = 0;
        for (int i = 0; i < TESTED.length; i++) {
            if (SENTENCES.get(i).startsWith(section + " | " + beginning)) {
                TESTED[i] = true;
                found++;
            }
        }
        Check.due("sentences in " + section + " that begin: " + beginning, found, 1);
        return section + " | " + beginning;
    }

    static void eachIsTested() {
        Check.says("Every sentence of the document has a test");
        Check.due("there are sentences", TESTED.length > 100, true);
        for (int i = 0; i < TESTED.length; i++) {
            Check.due(SENTENCES.get(i) + " - is tested", TESTED[i], true);
        }
    }

    private static List<String> read() {
        List<String> sentences = new ArrayList<>();
        boolean isIn = false;
        String section = "";
        try {
            for (String line : Files.readAllLines(Path.of(DOCUMENT))) {
                if (line.startsWith("#")) {
                    section = line.replaceAll("^#+ |:.*", "");
                    isIn = (isIn || section.equals("Terms")) && !section.equals("Not promised");
                } else if (isIn && !line.isBlank() && !line.startsWith("Ahead of the calls")) {
                    addSentences(sentences, section, line);
                }
            }
        } catch (IOException e) {
            throw new IllegalStateException(DOCUMENT, e);
        }
        return sentences;
    }

    private static void addSentences(List<String> sentences, String section, String line) {
        // A promise's first line begins with the signature, an argument's with a dash.
        String text = line.replaceAll("^`[\\w ]+\\(.*`: |^- ", "");
        for (String sentence : text.split("(?<=\\.) (?=[A-Z])")) {
            sentences.add(section + " | " + sentence);
        }
    }

    public static void main(String[] args) {
        SENTENCES.forEach(System.out::println);
    }
}
