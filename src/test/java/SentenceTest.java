import java.io.IOException;

/** Each sentence of the document, by a test of its own; first of all at its boundaries. */
final class SentenceTest {
    public static void main(String[] args) throws IOException {
        Due due = new Due();
        Sentences sentences = new Sentences(due);
        Chapter[] chapters = {
            new GapTerms(sentences, due), new MarkTerms(sentences, due),
            new LineTerms(sentences, due), new CommandTerms(sentences, due),
            new UndoTerms(sentences, due), new EditPromises(sentences, due),
            new MovePromises(sentences, due), new MarkPromises(sentences, due),
            new TextPromises(sentences, due), new ArrayPromises(sentences, due),
            new ForecastPromises(sentences, due), new CommandPromises(sentences, due),
            new UndoPromises(sentences, due),
        };
        for (Chapter chapter : chapters) {
            chapter.all();
        }
        System.out.println(sentences.close() + " sentences of the document, each with a test");
        due.close();
    }
}
