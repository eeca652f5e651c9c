import java.util.function.Function;
import java.util.function.Supplier;

/** What the tests of single sentences share. */
abstract class Edges {
    static final Class<?> INDEX = IndexOutOfBoundsException.class;
    static final Class<?> ARGUMENT = IllegalArgumentException.class;
    static final Class<?> STATE = IllegalStateException.class;

    static final int[] BELOW_0 = {-1, Integer.MIN_VALUE};
    static final String ZEROS = "00000";
    static final String START = "11010";
    static final String END = "11111";

    /** Its row has 200 times with 10 bits 0 ahead and behind, and 202 with 11: 135 bits, 65 of them 1. */
    static final String FULL = "77777777777777777700";

    final Tally tally;
    final Sentences sentences;

    Edges(Tally tally, Sentences sentences) {
        this.tally = tally;
        this.sentences = sentences;
    }

    final void is(String what, Object got, Object want) {
        tally.is(what, got, want);
    }

    /** The call throws just this exception, and the object is then what it would be without the call, in all of it. */
    final void refuses(String what, Supplier<StripeSwipes> made, Class<?> exception,
            Function<StripeSwipes, Object> call) {
        StripeSwipes asked = made.get();
        is(what, Tally.told(() -> call.apply(asked)), "throws." + exception.getSimpleName());
        is(what + " changes nothing", everything(asked), everything(made.get()));
    }

    /** All that the object holds; what the digest does not tell is told by calls that use it up. */
    static String everything(StripeSwipes x) {
        StringBuilder text = new StringBuilder().append(x.digest());
        for (int left = x.count(6); left > 0; left--) {
            text.append(' ').append(x.undo()).append(':').append(x.digest());
        }
        for (int slot = 0; slot <= 1; slot++) {
            int number = slot;
            text.append(' ').append(Tally.told(() -> x.goBack(number))).append(':').append(x.digest());
        }
        return text.toString();
    }

    /** Six saved states that differ, both slots with a snapshot, and this text in the buffer. */
    static StripeSwipes rich(String text) {
        StripeSwipes x = Rows.card("12");
        x.keep(0);
        x.set(3, 4);
        Rows.type(x, "5=").write();
        x.keep(1);
        x.join(2);
        x.change(3, 77);
        x.set(1, 80);
        x.scratch(4, 9);
        x.turn();
        return Rows.type(x, text);
    }

    static StripeSwipes empty() {
        return new StripeSwipes();
    }

    static StripeSwipes typed(String text) {
        return Rows.type(new StripeSwipes(), text);
    }

    /** A row of these times, each 1 to 999, read with a clock that does not follow. */
    static StripeSwipes steady(int... times) {
        StripeSwipes x = Rows.row(times);
        x.set(2, 0);
        return x;
    }

    /** A row of 200 times. */
    static StripeSwipes full() {
        return Rows.card(FULL);
    }

    static String reversed(String text) {
        return new StringBuilder(text).reverse().toString();
    }

    static int[] joined(int[] former, int... latter) {
        int[] all = java.util.Arrays.copyOf(former, former.length + latter.length);
        System.arraycopy(latter, 0, all, former.length, latter.length);
        return all;
    }
}
