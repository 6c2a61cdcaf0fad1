import java.io.IOException;

/**
 * A test for each sentence of the document, at the last value that is allowed and the first that is
 * not. Its argument is the document.
 */
public final class BoundsTest {
    public static void main(String[] args) throws IOException {
        Sentences.read(args.length > 0 ? args[0] : "../shared/DOC.md");
        ConventionBounds.all();
        TextBounds.all();
        MayBounds.all();
        StepBounds.all();
        RunBounds.all();
        ImageBounds.all();
        Sentences.allAreTested();
        Due.finish("BoundsTest");
    }
}
