import java.io.IOException;
import java.nio.file.Files;
import java.nio.file.Path;

/** For each sentence of the document that names a boundary case, and for the others too, a test of its own. */
public final class LoftTreeSentences {
    private static final Path DOCUMENT = Path.of("../shared/DOC.md");

    private LoftTreeSentences() {
    }

    public static void main(String[] args) throws IOException {
        SentencesOfTerms.tell();
        SentencesOfCounts.tell();
        SentencesOfText.tell();
        SentencesOfSteps.tell();
        SentencesOfStates.tell();
        SentencesOfWorth.tell();
        SentencesOfChange.tell();
        SentencesOfRows.tell();
        int complaints = complaints();
        System.out.println(Sentences.tests() + " sentences, of which " + Sentences.failed() + " do not hold");
        if (Sentences.failed() + complaints > 0) {
            System.exit(1);
        }
    }

    /** The quotes are the document's own words, and none of its words is left without a test. */
    private static int complaints() throws IOException {
        if (!Files.isReadable(DOCUMENT)) {
            System.out.println("the document is not at " + DOCUMENT + ": the quotes are not held against it");
            return 0;
        }
        Document document = new Document(DOCUMENT);
        int n = 0;
        for (int number = 0; number <= Sentences.PROMISES; number++) {
            for (String complaint : document.complaints(number, Sentences.quotes(number))) {
                System.out.println((number == 0 ? "Terms" : "promise " + number) + " " + complaint);
                n++;
            }
        }
        return n;
    }
}
