/** Runs every test of the project; exit code 1 if one fails. */
public final class AllTests {
    public static void main(String[] args) {
        Checks checks = new Checks();
        new ModelTests(checks).runAll();
        System.out.println(checks.summary());
        if (checks.countFailed() > 0) {
            System.exit(1);
        }
    }
}
