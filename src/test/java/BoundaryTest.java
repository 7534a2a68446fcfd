import java.nio.file.Path;

/**
 * Each sentence of the document that names a boundary case, by a test of its own: too small, too large,
 * empty, full, refused. A test quotes its sentence; the quotes are compared with the document.
 */
final class BoundaryTest {
    public static void main(String[] args) {
        Sentences s = new Sentences();
        new TermsBoundaries(s).all();
        new TellingBoundaries(s).all();
        new SolvingBoundaries(s).all();
        new ReachBoundaries(s).all();
        new CountingBoundaries(s).all();
        s.compareWith(Path.of("..", "shared", "DOC.md"));
        s.end();
    }
}
