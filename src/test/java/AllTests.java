/** Runs every test of the project; exit code 1 if one fails. The argument is the path of DepotCharge.java. */
public final class AllTests {
    public static void main(String[] args) {
        Checks checks = new Checks();
        new PromiseTests(checks).runAll();
        new FaceTests(checks).runAll(args.length > 0 ? args[0] : "src/main/java/DepotCharge.java");
        new ModelTests(checks).runAll();
        System.out.println(checks.summary());
        if (checks.countFailed() > 0) {
            System.exit(1);
        }
    }
}
