/** Runs every test of the project. */
public final class AllTests {
    private AllTests() {
    }

    public static void main(String[] args) {
        Checks checks = new Checks();
        FaceTest.run(checks);
        LanguageTest.run(checks);
        ReadmeTest.run(checks);
        PromiseTest.run(checks);
        Cases cases = new Cases(checks);
        TermsTest.run(cases);
        SentencesTest.run(cases);
        HousesTest.run(cases);
        MovesTest.run(cases);
        GameNumbersTest.run(cases);
        LooksTest.run(cases);
        BetsTest.run(cases);
        JournalTest.run(cases);
        FiguresTest.run(cases);
        SoundTest.run(cases);
        cases.tellUncited();
        LimitTest.run(checks);
        RandomTest.run(checks);
        System.out.println(checks.passed() + " passed, " + checks.failed() + " failed");
        if (checks.failed() != 0) {
            System.exit(1);
        }
    }
}
