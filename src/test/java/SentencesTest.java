import java.io.IOException;
import java.util.List;

/**
 * Each sentence of the document has checks of its own, which name it: all sentences of the promises, and those of the
 * description but for the few that no answer can show.
 */
public final class SentencesTest {
    private static final List<String> NOT_SEEN_IN_ANSWERS = List.of("The class is not thread-safe.", "Code.",
        "Body texts.", "Preserved registers.", "Sure definitions.", "Arguments and results.", "Call sites.", "Roles.", "Runs.");

    public static void main(String[] args) throws IOException {
        TextSentences.check();
        BodySentences.check();
        PathSentences.check();
        LiveSentences.check();
        SiteSentences.check();
        VoteSentences.check();
        RunSentences.check();
        SaveSentences.check();
        RefusalSentences.check();
        compareWithDocument(new Document());
        Check.finish();
    }

    private static void compareWithDocument(Document document) {
        Check.endSentence();
        for (int promise = 0; promise <= Document.PROMISES; promise++) {
            Check.same("promise " + promise + " has sentences", document.of(promise).isEmpty(), false);
            String whole = String.join(" ", document.of(promise));
            for (String named : Check.NAMED) {
                if (named.startsWith(promise + " ")) {
                    String words = named.substring(named.indexOf(' ') + 1);
                    Check.same("the document says " + named, whole.contains(words), true);
                }
            }
            for (String sentence : document.of(promise)) {
                Check.same("\"" + sentence + "\" of " + promise + " has checks", hasChecks(promise, sentence), true);
            }
        }
    }

    private static boolean hasChecks(int promise, String sentence) {
        if (promise == 0 && NOT_SEEN_IN_ANSWERS.contains(sentence)) {
            return true;
        }
        for (String named : Check.NAMED) {
            String words = named.substring(named.indexOf(' ') + 1);
            if (named.startsWith(promise + " ") && (sentence.contains(words) || words.contains(sentence))) {
                return true;
            }
        }
        return false;
    }
}
