/** Runs every test of the project; ends with exit code 1 if an answer is not the one that is due. */
public final class AllTests {
    private AllTests() {
    }

    public static void main(String[] args) {
        LanguageTest.run();
        ReadmeTest.run();
        FaceTest.run();
        InputTest.run();
        TextTest.run();
        ArchiveTest.run();
        DestructionTest.run();
        LoanTest.run();
        ForecastTest.run();
        WritingTest.run();
        ChangeTest.run();
        ClassAndBoxLimitsTest.run();
        DestructionLimitsTest.run();
        LoanLimitsTest.run();
        TextLimitsTest.run();
        CallLimitsTest.run();
        UndoLimitsTest.run();
        RefusalTest.run();
        GridTest.run();
        RandomRunsTest.run();
        System.out.println(Checks.passed + " passed, " + Checks.failed + " failed");
        System.exit(Checks.failed == 0 && Checks.passed > 0 ? 0 : 1);
    }
}
