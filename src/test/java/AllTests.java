/** Runs every test of the project. */
public final class AllTests {
    private AllTests() {
    }

    public static void main(String[] args) throws Exception {
        Tally tally = new Tally();
        FaceTests.run(tally);
        LanguageTests.run(tally, args.length > 0 ? args[0] : "src/main/java/StripeSwipes.java");
        CardTests.run(tally);
        BufferTests.run(tally);
        LookTests.run(tally);
        WouldBeTests.run(tally);
        runSentences(tally, args.length > 1 ? args[1] : "../shared/DOC.md");
        ModelTests.run(tally);
        EndlessTests.run(tally);
        ReadmeTests.run(tally);
        System.out.println(tally.passed() + " passed, " + tally.failed() + " failed");
        System.exit(tally.failed() == 0 ? 0 : 1);
    }

    private static void runSentences(Tally tally, String document) throws Exception {
        Sentences sentences = new Sentences(tally, document);
        new TermEdges(tally, sentences).run();
        new ReaderEdges(tally, sentences).run();
        new CardEdges(tally, sentences).run();
        new BufferEdges(tally, sentences).run();
        new LookEdges(tally, sentences).run();
        new WouldBeEdges(tally, sentences).run();
    }
}
