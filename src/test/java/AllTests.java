import java.io.IOException;
import java.nio.file.Path;
import java.util.List;

/**
 * Runs every test of the project; exit code 1 if one fails. The arguments are the paths of DepotCharge.java, DOC.md and
 * README.md; without them they are looked for from the top folder of the checkout.
 */
public final class AllTests {
    public static void main(String[] args) {
        Checks checks = new Checks();
        new PromiseTests(checks).runAll();
        String document = args.length > 1 ? args[1] : "../shared/DOC.md";
        boundaries(checks, document);
        new FaceTests(checks).runAll(args.length > 0 ? args[0] : "src/main/java/DepotCharge.java", document);
        new ReadmeTests(checks).runAll(Path.of(args.length > 2 ? args[2] : "README.md"), Path.of(document));
        new ModelTests(checks).runAll();
        System.out.println(checks.summary());
        if (checks.countFailed() > 0) {
            System.exit(1);
        }
    }

    private static void boundaries(Checks checks, String path) {
        Document document = null;
        try {
            document = Document.read(Path.of(path));
        } catch (IOException e) {
            System.out.println("the sentences are not looked up in the document: " + e);
        }
        List<Boundaries> all = List.of(new TermsBoundaries(checks, document), new HourBoundaries(checks, document),
            new TextBoundaries(checks, document), new CallBoundaries(checks, document),
            new ForesightBoundaries(checks, document));
        for (Boundaries some : all) {
            some.runAll();
        }
        if (document != null) {
            checks.same("sentences without a test", "[]", document.notQuoted().toString());
        }
    }
}
