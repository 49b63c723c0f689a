import java.io.IOException;
import java.nio.file.Path;

/** Each sentence of the document that names a boundary case, with the answers that it asks for. */
public final class SpiteLineBounds {
    public static void main(String[] args) throws IOException {
        Sentences s = new Sentences(Path.of("../shared/DOC.md"));
        TermBounds.hold(s);
        TextBounds.hold(s);
        DeedBounds.hold(s);
        TrainBounds.hold(s);
        TriedBounds.hold(s);
        RanBounds.hold(s);
        ImageBounds.hold(s);
        if (s.end() != 0) {
            System.exit(1);
        }
    }
}
