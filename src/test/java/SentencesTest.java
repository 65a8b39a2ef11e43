import java.io.IOException;
import java.nio.file.Path;

/** Each sentence of the document has a test of its own, and holds; a sentence without one is told as a fault. */
public final class SentencesTest extends Sentences {
    public static void main(String[] args) throws IOException {
        openBook(Path.of("../shared/DOC.md"));
        TermsSentences.all();
        TentsSentences.all();
        DaysSentences.all();
        MovesSentences.all();
        BooksSentences.all();
        TextsSentences.all();
        SheetsSentences.all();
        ImagesSentences.all();
        BOOK.forEach((s, answers) -> {
            if (answers == 0) {
                wrong++;
                System.out.println("[" + s + "] has no test");
            }
        });
        System.out.println(BOOK.size() + " sentences, " + asked + " answers asked, " + wrong + " not as due");
        if (wrong != 0) {
            System.exit(1);
        }
    }
}
