import java.io.IOException;
import java.nio.file.Files;
import java.nio.file.Path;

/**
 * For each sentence of the document that names a bound, calls on either side of it. Each test quotes the words that
 * it tests; where the document is at hand, it must say them, and no word of its Terms and promises is left out.
 */
public final class BoundsTest {
    private BoundsTest() {
    }

    public static void main(String[] args) throws IOException {
        Path document = Path.of("../shared/DOC.md");
        boolean isHere = Files.exists(document);
        if (isHere) {
            Checks.readDocument(document);
        }
        BoundsOfNumbers.run();
        BoundsOfNames.run();
        BoundsOfWaves.run();
        BoundsOfGauges.run();
        BoundsOfShoals.run();
        BoundsOfWaters.run();
        BoundsOfShips.run();
        BoundsOfFleets.run();
        BoundsOfRoutes.run();
        BoundsOfWindows.run();
        BoundsOfPassages.run();
        BoundsOfFindings.run();
        if (isHere) {
            Checks.dueAllQuoted();
        }
        Checks.end("all bounds are kept");
    }
}
