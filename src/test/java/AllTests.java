/** Runs every test of the project; ends with exit code 1 if one failed. */
public final class AllTests {
    private AllTests() {
    }

    public static void main(String[] args) {
        FaceTest.run();
        ReadmeTest.run();
        StateTest.run();
        RangesTest.run();
        PlacesTest.run();
        EntriesTest.run();
        SpreadTest.run();
        SpreadYearTest.run();
        CopyTest.run();
        HandingInTest.run();
        MonthsTest.run();
        AmountsTest.run();
        GapTest.run();
        ModelTest.run();
        System.out.println("project: " + Check.passed() + " passed, " + Check.failed() + " failed");
        System.exit(Check.failed() == 0 ? 0 : 1);
    }
}
