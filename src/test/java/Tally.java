/** Counts checks, and prints those that fail. */
final class Tally {
    interface Call {
        Object answer();
    }

    private int passed = 0;
    private int failed = 0;

    void is(String what, Object got, Object want) {
        if (got.equals(want)) {
            passed++;
        } else {
            failed++;
            System.out.println("FAILED " + what + ": got " + got + ", due is " + want);
        }
    }

    /** What the call answers, or the exception that it throws, as a text. */
    static String told(Call call) {
        try {
            return String.valueOf(call.answer());
        } catch (RuntimeException e) {
            return "throws." + e.getClass().getSimpleName();
        }
    }

    /** Checks that the call throws just this exception, and that it changes nothing that can be seen. */
    void refuses(String what, StripeSwipes x, Class<?> exception, Call call) {
        long before = x.digest();
        is(what, told(call), "throws." + exception.getSimpleName());
        is(what + " changes nothing", x.digest(), before);
    }

    int passed() {
        return passed;
    }

    int failed() {
        return failed;
    }
}
