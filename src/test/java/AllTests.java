/** Runs every test of the project. */
public final class AllTests {
    private AllTests() {
    }

    public static void main(String[] args) {
        Checks checks = new Checks();
        FaceTest.run(checks);
        PromiseTest.run(checks);
        LimitTest.run(checks);
        RandomTest.run(checks);
        System.out.println(checks.passed() + " passed, " + checks.failed() + " failed");
        if (checks.failed() != 0) {
            System.exit(1);
        }
    }
}
