import java.nio.file.Path;

/** Each sentence of the document that names a boundary, quoted, with answers at it and on both sides of it. */
public final class BoundaryTest {
    public static void main(String[] args) throws Exception {
        Path source = args.length > 0 ? Path.of(args[0]) : Path.of("src/main/java/PoleSets.java");
        Path root = source.toAbsolutePath().normalize().getParent().getParent().getParent().getParent();
        Check check = new Check(root.resolve("../shared/DOC.md"));
        new PoleBoundaries(check).look();
        new SetBoundaries(check).look();
        new SlopeBoundaries(check).look();
        new StatusBoundaries(check).look();
        new CallBoundaries(check).look();
        new LaterCallBoundaries(check).look();
        if (check.end() != 0) {
            System.exit(1);
        }
    }
}
