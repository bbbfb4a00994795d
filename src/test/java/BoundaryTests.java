import java.nio.file.Path;

/** Each sentence of the document, quoted, with what is due at its boundary and on both sides of it. */
public final class BoundaryTests {
    public static void main(String[] args) throws Exception {
        Sentences s = new Sentences(Path.of("../shared/DOC.md"));
        s.part("Terms", "Promise 1: A new object");
        new TextBounds(s).run();
        new CountBounds(s).run();
        new FallBounds(s).run();
        new PlanBounds(s).run();
        new CallBounds(s).run();
        new AskBounds(s).run();
        if (!s.end()) {
            System.exit(1);
        }
    }
}
