import java.io.IOException;
import java.nio.charset.StandardCharsets;
import java.nio.file.Files;
import java.nio.file.Path;

/**
 * A test for each sentence of the document that names a boundary case. The first argument is the
 * document: a sentence that no longer stands in it is told, but fails nothing.
 */
public final class PactYearsSentences {
    private static final int MOST_PROMISE = 36;

    private PactYearsSentences() {
    }

    public static void main(String[] args) throws IOException {
        if (args.length > 0 && Files.isReadable(Path.of(args[0]))) {
            Sentences.read(Files.readString(Path.of(args[0]), StandardCharsets.UTF_8));
        }
        Sentences.runAll(SentencesOfTexts.class);
        Sentences.runAll(SentencesOfWishes.class);
        Sentences.runAll(SentencesOfAsking.class);
        Sentences.runAll(SentencesOfYears.class);
        for (int promise = 1; promise <= MOST_PROMISE; promise++) {
            if (!Sentences.PROMISES.contains(promise)) {
                Sentences.wrong++;
                System.out.println("promise " + promise + " has no test of a sentence");
            }
        }
        if (Sentences.isRead() && Sentences.NOT_IN_DOCUMENT.length() > 0) {
            System.out.println("not (any more) in the document:\n" + Sentences.NOT_IN_DOCUMENT);
        }
        System.out.println("Sentences: " + Sentences.tests + " tests, " + Sentences.answers + " answers, " + Sentences.wrong
                + " are not as due");
        if (Sentences.wrong != 0) {
            System.exit(1);
        }
    }
}
