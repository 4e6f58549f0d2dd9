import java.io.IOException;
import java.nio.file.Path;

/** A test of its own for each sentence of the document that names a boundary. Its argument is the path of the document. */
public final class BoundariesTest {
    private BoundariesTest() {
    }

    public static void main(String[] args) throws IOException {
        if (args.length != 1) {
            System.out.println("BoundariesTest needs the path of the document");
            System.exit(1);
        }
        Due due = new Due();
        Sentences says = new Sentences(due, Path.of(args[0]));
        Boundaries[] groups = {new LineBoundaries(due, says), new DayBoundaries(due, says), new WaitBoundaries(due, says),
            new AskedBoundaries(due, says), new WhatIfBoundaries(due, says),
            new TextBoundaries(due, says), new HistoryBoundaries(due, says), new ErrorBoundaries(due, says)};
        for (Boundaries group : groups) {
            group.all();
        }
        says.end("BoundariesTest");
    }
}
