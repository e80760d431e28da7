import java.io.IOException;

/** Each sentence of the document that names a boundary case, by a test of its own; src/test/boundaries has them. */
public final class Boundaries {
    public static void main(String[] args) throws IOException {
        Doc.read();
        Terms.test();
        LandTold.test();
        Hours.test();
        Tried.test();
        FirstPromises.test();
        LastPromises.test();
        if (!Doc.end()) {
            System.exit(1);
        }
    }
}
