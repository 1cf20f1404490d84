/** Runs every test of the project; ends with 1 if one fails. */
final class AllTests {
    private AllTests() {
    }

    public static void main(String[] args) throws Exception {
        Check check = new Check();
        RowTests.run(check);
        LandTests.run(check);
        DeedTests.run(check);
        VoteTests.run(check);
        YearTests.run(check);
        WayTests.run(check);
        ChanceTests.run(check);
        ToldTests.run(check);
        EdgeTests.run(check);
        ModelRuns.run(check);
        ReadmeTests.run(check);
        RuleTests.run(check);
        check.everyPromiseHasOne();
        check.everySentenceHasOne();
        System.out.println("sentences of the document tested by themselves: " + check.sentences());
        System.out.println("checks: " + check.passed() + " as due, " + check.failed() + " not as due");
        if (check.failed() != 0) {
            System.exit(1);
        }
    }
}
