import java.io.IOException;

/**
 * The boundary cases of all promises. Each test names the promise and the words of the document that it stands
 * for; that the document says these words, and that all it says is stood for, is looked at, too.
 */
public final class BoundsTest {
    public static void main(String[] args) throws IOException {
        Document document = new Document();
        Checks checks = new Checks("BoundsTest", document);
        new WallBounds(checks).run();
        new HandBounds(checks).run();
        new LayerBounds(checks).run();
        new CoinBounds(checks).run();
        new FameBounds(checks).run();
        new AskedBounds(checks).run();
        new WouldBounds(checks).run();
        new EverythingBounds(checks).run();
        new RefusedBounds(checks).run();
        new DeedBounds(checks).run();
        for (String words : document.notQuoted()) {
            checks.fail("no test stands for these words: " + words);
        }
        checks.end();
    }
}
