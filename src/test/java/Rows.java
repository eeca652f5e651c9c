/** Brings objects into states by promised calls alone, and by few of them, as only the first 512 are promised. */
final class Rows {
    /** More than can be read of any row, so that no test goes on without an end. */
    private static final int MOST = 201;

    private Rows() {
    }

    static StripeSwipes type(StripeSwipes x, String text) {
        for (int i = 0; i < text.length(); i++) {
            x.append(text.charAt(i));
        }
        return x;
    }

    static StripeSwipes card(String text) {
        StripeSwipes x = type(new StripeSwipes(), text);
        x.write();
        return x;
    }

    static StripeSwipes cardWithJerk(String text, int jerk) {
        StripeSwipes x = new StripeSwipes();
        x.set(3, jerk);
        type(x, text).write();
        return x;
    }

    /** A card "0" was written, then the row was made these times (1 or more of them, each 1 to 999). */
    static StripeSwipes row(int... times) {
        return fit(card("0"), times);
    }

    static StripeSwipes fit(StripeSwipes x, int... times) {
        int many = x.count(0);
        for (; many > times.length; many--) {
            x.join(0);
        }
        for (; many < times.length; many++) {
            x.change(0, 999);
            x.scratch(0, 1);
        }
        for (int i = 0; i < times.length; i++) {
            x.change(i, times[i]);
        }
        return x;
    }

    /** The times of bits, a bit being 200. */
    static int[] times(String bits) {
        int[] times = new int[bits.length() + (int) bits.chars().filter(c -> c == '1').count()];
        int next = 0;
        for (char bit : bits.toCharArray()) {
            if (bit == '1') {
                times[next++] = 100;
                times[next++] = 100;
            } else {
                times[next++] = 200;
            }
        }
        return times;
    }

    static StripeSwipes bits(String... parts) {
        return row(times(String.join("", parts)));
    }

    /** The 5 bits of a number, with odd parity. */
    static String group(int number) {
        String four = "" + (number & 1) + (number >> 1 & 1) + (number >> 2 & 1) + (number >> 3 & 1);
        return four + (Integer.bitCount(number) + 1) % 2;
    }

    /** The 5 bits of a number, with even parity. */
    static String bad(int number) {
        String good = group(number);
        return good.substring(0, 4) + (good.charAt(4) == '0' ? "1" : "0");
    }

    static String all(StripeSwipes x) {
        StringBuilder text = new StringBuilder();
        int many = x.count(0);
        for (int i = 0; i < many; i++) {
            text.append(i == 0 ? "" : " ").append(x.time(i));
        }
        return text.toString();
    }

    static String read(StripeSwipes x, boolean backwards) {
        StringBuilder text = new StringBuilder();
        for (int what = 0; what <= 4; what++) {
            text.append(what == 0 ? "" : " ").append(x.reads(backwards, what));
        }
        return text.toString();
    }

    static String bitsRead(StripeSwipes x, boolean backwards) {
        StringBuilder text = new StringBuilder();
        int next = x.bit(backwards, 0);
        for (int i = 1; next != StripeSwipes.NONE && i <= MOST; i++) {
            text.append(next);
            next = x.bit(backwards, i);
        }
        return text.toString();
    }

    static String lettersRead(StripeSwipes x, boolean backwards) {
        StringBuilder text = new StringBuilder();
        int next = x.letter(backwards, 0);
        for (int i = 1; next != StripeSwipes.NONE && i <= MOST; i++) {
            text.append(i == 1 ? "" : " ").append(next);
            next = x.letter(backwards, i);
        }
        return text.toString();
    }
}
