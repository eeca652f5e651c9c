/** Runs every test of the project. */
public final class AllTests {
    private AllTests() {
    }

    public static void main(String[] args) throws Exception {
        Tally tally = new Tally();
        ModelTests.run(tally);
        System.out.println(tally.passed() + " passed, " + tally.failed() + " failed");
        System.exit(tally.failed() == 0 ? 0 : 1);
    }
}
