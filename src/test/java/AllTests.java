/** Runs every test of the project. */
public final class AllTests {
    private AllTests() {
    }

    public static void main(String[] args) throws Exception {
        Tally tally = new Tally();
        FaceTests.run(tally);
        LanguageTests.run(tally, args.length > 0 ? args[0] : "src/main/java/StripeSwipes.java");
        CardTests.run(tally);
        BufferTests.run(tally);
        LookTests.run(tally);
        WouldBeTests.run(tally);
        ModelTests.run(tally);
        EndlessTests.run(tally);
        System.out.println(tally.passed() + " passed, " + tally.failed() + " failed");
        System.exit(tally.failed() == 0 ? 0 : 1);
    }
}
