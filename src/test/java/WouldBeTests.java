/** Promises 22 to 27: what would be. */
final class WouldBeTests {
    private static final Class<?> ARGUMENT = IllegalArgumentException.class;
    private static final String ZEROS = "00000";
    private static final String START = Rows.group(11);
    private static final String END = Rows.group(15);

    private final Tally tally;

    private WouldBeTests(Tally tally) {
        this.tally = tally;
    }

    static void run(Tally tally) {
        WouldBeTests tests = new WouldBeTests(tally);
        tests.isRight();
        tests.repair();
        tests.noRepair();
        tests.ratios();
        tests.greatestJerk();
        tests.shortShare();
        tests.digest();
    }

    private void isRight() {
        tally.is("22: no card", new StripeSwipes().isRight(), 0);
        StripeSwipes x = Rows.card("5=");
        tally.is("22: forwards", x.isRight(), 1);
        x.turn();
        tally.is("22: backwards", x.isRight(), 2);
        x.join(0);
        tally.is("22: with dirt on the bits 0", x.isRight(), 2);
        x.join(19);
        tally.is("22: with dirt on a letter", x.isRight(), 0);
        String zero = ZEROS + START + Rows.group(0) + END + Rows.group(4) + ZEROS;
        String back = new StringBuilder(zero).reverse().toString();
        tally.is("22: both ways", Rows.bits(zero, back).isRight(), 1);
        tally.is("22: another letter", Rows.bits(ZEROS, START, Rows.group(1), END, Rows.group(5)).isRight(), 0);
        String two = Rows.group(0) + Rows.group(0);
        tally.is("22: a letter more", Rows.bits(ZEROS, START, two, END, Rows.group(4)).isRight(), 0);
        tally.is("22: no letters", Rows.bits(ZEROS, START, END, Rows.group(4)).isRight(), 0);
        tally.is("22: a wrong check", Rows.bits(ZEROS, START, Rows.group(0), END, Rows.group(5)).isRight(), 0);
        StripeSwipes y = new StripeSwipes();
        y.keep(0);
        Rows.type(y, "0").write();
        y.undo();
        tally.is("22: a card that was undone", y.isRight(), 0);
        StripeSwipes z = Rows.card("0");
        z.set(1, 50);
        tally.is("22: with the ratio of now", z.isRight(), 0);
    }

    private void repairs(String what, StripeSwipes x, int place, int number) {
        tally.is("23: " + what, x.repair(0) + " " + x.repair(1), place + " " + number);
    }

    private void repair() {
        String three = Rows.group(3);
        String bad = Rows.bad(5);
        repairs("the second letter", Rows.bits(ZEROS, START, three, bad, END, Rows.group(11 ^ 3 ^ 9 ^ 15)), 1, 9);
        repairs("the first letter", Rows.bits(ZEROS, START, bad, three, END, Rows.group(11 ^ 3 ^ 4 ^ 15), ZEROS), 0, 4);
        repairs("the parity alone", Rows.bits(ZEROS, START, Rows.bad(5), END, Rows.group(1), ZEROS), 0, 5);
        String check = Rows.group(11 ^ 3 ^ 14 ^ 15);
        repairs("an end that is a letter", Rows.bits(ZEROS, START, three, Rows.bad(15), END, check), 1, 14);
        repairs("any number", Rows.bits(ZEROS, START, Rows.bad(7), END, Rows.group(11)), 0, 15);
        String nine = three + three + three;
        repairs("the place behind 3 letters", Rows.bits(ZEROS, START, nine, Rows.bad(1), END, Rows.group(7)), 3, 0);
        repairs("what stands behind the check", Rows.bits(ZEROS, START, bad, END, Rows.group(1), Rows.bad(2)), 0, 5);
        StripeSwipes x = Rows.card("12=9");
        x.join(18);
        repairs("dirt on a letter", x, 0, 1);
        StripeSwipes y = Rows.bits(ZEROS, START, Rows.bad(5), END, Rows.group(1));
        for (int what : new int[] {-1, 2, Integer.MAX_VALUE, Integer.MIN_VALUE}) {
            tally.refuses("23: what " + what, y, ARGUMENT, () -> y.repair(what));
        }
    }

    private void noRepair() {
        String three = Rows.group(3);
        String bad = Rows.bad(5);
        repairs("no times", new StripeSwipes(), -1, -1);
        repairs("a card that is read", Rows.card("12=9"), -1, -1);
        repairs("a wrong number", Rows.bits(ZEROS, START, three, END, Rows.group(9)), -1, -1);
        repairs("two letters", Rows.bits(ZEROS, START, bad, bad, END, Rows.group(9), ZEROS), -1, -1);
        repairs("a letter and the check", Rows.bits(ZEROS, START, bad, END, Rows.bad(1), ZEROS), -1, -1);
        repairs("the check", Rows.bits(ZEROS, START, three, END, Rows.bad(7), ZEROS), -1, -1);
        repairs("the end", Rows.bits(ZEROS, START, three, Rows.bad(15), Rows.group(7), ZEROS), -1, -1);
        repairs("a letter and the end", Rows.bits(ZEROS, START, bad, Rows.bad(15), END, Rows.group(7)), -1, -1);
        repairs("no end", Rows.bits(ZEROS, START, bad, three, ZEROS), -1, -1);
        repairs("no check", Rows.bits(ZEROS, START, bad, END), -1, -1);
        repairs("4 bits of the check", Rows.bits(ZEROS, START, bad, END, "1000"), -1, -1);
        StripeSwipes turned = Rows.bits(ZEROS, START, bad, END, Rows.group(1), ZEROS);
        turned.turn();
        repairs("backwards", turned, -1, -1);
        int[] whole = Rows.times(ZEROS + START + bad + END + Rows.group(1) + ZEROS);
        int[] broken = java.util.Arrays.copyOf(whole, whole.length + 1);
        broken[whole.length] = 149;
        repairs("a reading that breaks off", Rows.row(broken), -1, -1);
    }

    private void ratios(String what, StripeSwipes x, String numbers) {
        tally.is("24: " + what, x.ratios(0) + " " + x.ratios(1) + " " + x.ratios(2), numbers);
    }

    private void ratios() {
        ratios("no card", new StripeSwipes(), "-1 -1 0");
        StripeSwipes x = Rows.card("0");
        ratios("a clean row", x, "51 95 45");
        x.set(1, 50);
        x.turn();
        ratios("the ratio of now is not asked, both ways are", x, "51 95 45");
        x.turn();
        x.set(2, 0);
        x.change(5, 170);
        ratios("a short 0", x, "51 85 35");
        x.change(10, 120);
        ratios("a long half of a 1", x, "61 85 25");
        x.change(10, 189);
        ratios("none", x, "-1 -1 0");
        x.swipe();
        x.change(5, 191);
        ratios("up to 95", x, "51 95 45");
        x.change(5, 189);
        ratios("up to 94", x, "51 94 44");
        x.change(10, 99);
        x.change(11, 99);
        for (int place = 12; place < 50; place++) {
            if (x.time(place) == 100) {
                x.change(place, 99);
            }
        }
        ratios("from 50 on", x, "50 94 45");
        x.change(5, 190);
        ratios("all", x, "50 95 46");
        for (int what : new int[] {-1, 3, Integer.MAX_VALUE, Integer.MIN_VALUE}) {
            tally.refuses("24: what " + what, x, ARGUMENT, () -> x.ratios(what));
        }
    }

    private void greatestJerk() {
        tally.is("25: no card", new StripeSwipes().greatestJerk(), -1);
        StripeSwipes x = Rows.card("0");
        x.set(2, 0);
        tally.is("25: the clock stays", x.greatestJerk(), 31);
        x.set(3, 40);
        tally.is("25: the jerk of now is not asked", x.greatestJerk(), 31);
        x.turn();
        x.join(3);
        tally.is("25: the row of now is not asked", x.greatestJerk(), 31);
        x.set(1, 95);
        tally.is("25: a great ratio", x.greatestJerk(), 7);
        x.set(1, 50);
        tally.is("25: none", x.greatestJerk(), -1);
        StripeSwipes y = Rows.card(CardTests.FULL);
        tally.is("25: 200 times", y.greatestJerk() >= 0, true);
        y.set(0, 11);
        tally.is("25: 202 times", y.greatestJerk(), -1);
        tally.is("25: from the document's tests", Rows.card("0").greatestJerk(), 17);
    }

    private void shortShare() {
        tally.is("26: no times", new StripeSwipes().shortShare(), 0.0);
        tally.is("26: a half", Rows.row(100, 100, 200, 200).shortShare(), 0.5);
        tally.is("26: a third", Rows.row(1, 100, 100).shortShare(), 1.0 / 3);
        tally.is("26: none", Rows.row(200, 200).shortShare(), 0.0);
        tally.is("26: rounded down", Rows.row(2, 3, 3, 3).shortShare(), 0.0);
        tally.is("26: less than 2", Rows.row(1, 4, 4, 4).shortShare(), 0.25);
        tally.is("26: the limit itself", Rows.row(150, 250).shortShare(), 0.0);
        StripeSwipes x = Rows.row(150, 250);
        x.set(1, 76);
        tally.is("26: with the ratio of now", x.shortShare(), 0.5);
    }

    private void digest() {
        long[] values = {0, 0, 0, 0, 0, -1, 0, 10, 75, 50, 0, 1, 0, -1, 0, 0, 1, 0, -1, 0, 0,
            0, -1, -1, -1, -1, 0, -1, 0, 0, 0, 0};
        long hash = 2963;
        for (long value : values) {
            hash = 31 * hash + value;
        }
        tally.is("27: a new object", new StripeSwipes().digest(), hash);
        StripeSwipes x = Rows.cardWithJerk("12=9", 3);
        tally.is("27: a card", x.digest(), told(x, 0, 0, ""));
        StripeSwipes kept = Rows.type(Rows.cardWithJerk("12=9", 3), "0?");
        kept.keep(1);
        tally.is("27: a slot and the buffer", kept.digest(), told(kept, 0, 1, "0?"));
        StripeSwipes dirty = Rows.type(Rows.cardWithJerk("12=9", 3), "0?");
        dirty.keep(0);
        dirty.keep(1);
        dirty.turn();
        dirty.change(20, 55);
        dirty.join(30);
        tally.is("27: dirt", dirty.digest(), told(dirty, 1, 1, "0?"));
        StripeSwipes y = Rows.bits(ZEROS, START, Rows.bad(5), END, Rows.group(1));
        tally.is("27: a repair", y.digest(), told(y, 0, 0, ""));
        for (int shorts = 1; shorts <= 30; shorts++) {
            int[] times = new int[20 + shorts];
            java.util.Arrays.fill(times, 999);
            java.util.Arrays.fill(times, 0, shorts, 1);
            StripeSwipes z = Rows.row(times);
            tally.is("27: " + shorts + " short times", z.digest(), told(z, 0, 0, ""));
        }
    }

    /** The hash of what the other calls answer. */
    private static long told(StripeSwipes x, int slot0, int slot1, String buffer) {
        long hash = 2963;
        for (int what = 0; what <= 6; what++) {
            hash = 31 * hash + x.count(what);
        }
        for (int setting = 0; setting <= 3; setting++) {
            hash = 31 * hash + x.setting(setting);
        }
        for (int next = x.time(0), i = 1; next >= 0; next = x.time(i++)) {
            hash = 31 * hash + next;
        }
        for (int next = x.written(0), i = 1; next >= 0; next = x.written(i++)) {
            hash = 31 * hash + next;
        }
        for (boolean backwards : new boolean[] {false, true}) {
            for (int what = 0; what <= 4; what++) {
                hash = 31 * hash + x.reads(backwards, what);
            }
            for (int next = x.bit(backwards, 0), i = 1; next >= 0; next = x.bit(backwards, i++)) {
                hash = 31 * hash + next;
            }
            for (int next = x.letter(backwards, 0), i = 1; next >= 0; next = x.letter(backwards, i++)) {
                hash = 31 * hash + next;
            }
        }
        hash = 31 * hash + x.isRight();
        hash = 31 * (31 * hash + x.repair(0)) + x.repair(1);
        for (int what = 0; what <= 2; what++) {
            hash = 31 * hash + x.ratios(what);
        }
        hash = 31 * hash + x.greatestJerk();
        hash = 31 * hash + Double.doubleToLongBits(x.shortShare());
        hash = 31 * (31 * hash + slot0) + slot1;
        hash = 31 * hash + buffer.length();
        for (char c : buffer.toCharArray()) {
            hash = 31 * hash + c;
        }
        return hash;
    }
}
