import java.io.IOException;
import java.util.List;

/** Promises 1 to 31: a test for each sentence; it fails, too, if the document has a word that no test quotes. */
public final class PromisesTest {
    private PromisesTest() { }

    public static void main(String[] args) throws IOException {
        Check check = new Check("PromisesTest");
        Document document = new Document();
        List<PromiseTests> all = List.of(new OfficePromises(check, document), new TakingPromises(check, document),
            new ShelfPromises(check, document), new HeardPromises(check, document), new SheetPromises(check, document),
            new PartsPromises(check, document));
        for (PromiseTests tests : all) {
            tests.all();
        }
        for (String word : document.unquoted()) {
            check.due("no test quotes " + word, 0, 1);
        }
        check.end();
    }
}
