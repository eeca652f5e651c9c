import java.math.BigInteger;
import java.util.ArrayList;
import java.util.List;

/** The sentences of promises 22 to 27: what would be. */
final class WouldBeEdges extends Edges {
    private static final String FIVE = "10101";
    private static final String BAD_FIVE = "10100";
    private static final String CHECK_OF_FIVE = "10000";

    WouldBeEdges(Tally tally, Sentences sentences) {
        super(tally, sentences);
    }

    void run() {
        isRight();
        repair();
        ratios();
        greatestJerk();
        shortShare();
        digest();
        for (int promise = 22; promise <= 27; promise++) {
            sentences.allWereQuoted("Promise " + promise);
        }
    }

    /** A card that was written as "5", and then a row of these bits. */
    private static StripeSwipes fiveAs(String... bits) {
        return Rows.fit(Rows.card("5"), Rows.times(String.join("", bits)));
    }

    private void isRight() {
        sentences.section("Promise 22");
        sentences.of("Tells whether the card is read as it was written, forwards or backwards.", () -> {
            is("as it was written", Rows.card("5").isRight(), 1);
            is("as another one", fiveAs(ZEROS, START, "10000", END, "10101").isRight(), 0);
        });
        sentences.of("Returns 1 if it is forwards, 2 if it is backwards (and not forwards), "
                + "0 otherwise (also without a card)", () -> {
            String card = ZEROS + START + FIVE + END + CHECK_OF_FIVE + ZEROS;
            is("forwards", fiveAs(card).isRight(), 1);
            is("backwards", fiveAs(reversed(card)).isRight(), 2);
            is("both", fiveAs(card, reversed(card)).isRight(), 1);
            is("forwards another one, backwards this one", fiveAs(ZEROS, START, "10000", END, "10101", ZEROS,
                    reversed(card)).isRight(), 2);
            is("forwards this one, backwards another one", fiveAs(card,
                    reversed(ZEROS + START + "10000" + END + "10101" + ZEROS)).isRight(), 1);
            is("neither", fiveAs(ZEROS).isRight(), 0);
            is("without a card", empty().isRight(), 0);
            StripeSwipes x = Rows.card("5");
            x.undo();
            is("a card that was undone", x.isRight(), 0);
        });
        sentences.of("with the reason 0, and the letters that were written.", () -> {
            is("the reason 2", fiveAs(ZEROS, START, FIVE, END, "10001").isRight(), 0);
            is("the reason 3", fiveAs(ZEROS, START, FIVE, END, "1000").isRight(), 0);
            is("the reason 4", fiveAs(ZEROS, START, FIVE, END, "01000").isRight(), 0);
            is("the reason 5", Rows.fit(Rows.card("5"), joined(Rows.times(ZEROS + START + FIVE + END + CHECK_OF_FIVE),
                    149)).isRight(), 0);
            is("the reason 6", fiveAs(ZEROS, START, END, "00100").isRight(), 0);
            is("a letter more", fiveAs(ZEROS, START, FIVE, "00001", END, CHECK_OF_FIVE).isRight(), 0);
            StripeSwipes x = Rows.fit(Rows.card("50"), Rows.times(ZEROS + START + FIVE + END + CHECK_OF_FIVE));
            is("a letter less", x.isRight(), 0);
            String other = ZEROS + START + "00001" + FIVE + END + CHECK_OF_FIVE;
            StripeSwipes y = Rows.fit(Rows.card("50"), Rows.times(other));
            is("another order", y.isRight(), 0);
            is("20 letters", Rows.card("0".repeat(20)).isRight(), 1);
        });
    }

    private void repairs(String what, StripeSwipes x, int place, int number) {
        is(what, x.repair(0) + " " + x.repair(1), place + " " + number);
    }

    private void repair() {
        sentences.section("Promise 23");
        sentences.of("Puts a letter right by the long check. It can be put right if, read forwards, the reason is 2",
                this::repairReasons);
        sentences.of("if, behind the start, each 5 bits being looked at up to the first ones that have the number 15 "
                + "and odd parity (the end), and the 5 bits behind them (the check), all of these are there",
                this::repairGroups);
        sentences.of("just one letter ahead of the end has not odd parity, and the check has.", this::repairOne);
        sentences.of("- `what`: 0: the place of this letter, from 0; "
                + "1: the number that it has to be, so that the long check is right", this::repairNumbers);
        sentences.of("Returns the number; NONE if it is not so.", () -> {
            repairs("without times", empty(), -1, -1);
            repairs("a card that is read", Rows.card("5"), -1, -1);
            repairs("the number 0", Rows.bits(ZEROS, START, BAD_FIVE, END, "00100"), 0, 0);
        });
        sentences.of("Throws `IllegalArgumentException` if what is not 0 or 1", () -> {
            for (int what : new int[] {-1, 2, Integer.MIN_VALUE, Integer.MAX_VALUE}) {
                refuses("what " + what, () -> rich("1"), ARGUMENT, x -> x.repair(what));
                refuses("what " + what + ", without times", Edges::empty, ARGUMENT, x -> x.repair(what));
            }
        });
    }

    private void repairReasons() {
        String right = ZEROS + START + BAD_FIVE + END + CHECK_OF_FIVE;
        repairs("the reason 2", Rows.bits(right), 0, 5);
        repairs("the reason 0", Rows.bits(ZEROS, START, FIVE, END, CHECK_OF_FIVE), -1, -1);
        repairs("the reason 1", Rows.bits(ZEROS, BAD_FIVE, END, CHECK_OF_FIVE), -1, -1);
        repairs("the reason 3", Rows.bits(ZEROS, START, FIVE, END, "1000"), -1, -1);
        repairs("the reason 4", Rows.bits(ZEROS, START, FIVE, END, "01000"), -1, -1);
        repairs("the reason 5", Rows.row(joined(Rows.times(right), 149)), -1, -1);
        repairs("the reason 6", Rows.bits(ZEROS, START, END, "00100"), -1, -1);
        repairs("a wrong letter behind a card that is read",
                Rows.bits(ZEROS, START, FIVE, END, CHECK_OF_FIVE, BAD_FIVE, END, CHECK_OF_FIVE), -1, -1);
        StripeSwipes x = Rows.bits(right);
        x.turn();
        is("the reason 2 backwards", x.reads(true, 0), 2);
        repairs("not backwards", x, -1, -1);
    }

    private void repairGroups() {
        repairs("right up to the check", Rows.bits(ZEROS, START, BAD_FIVE, END, CHECK_OF_FIVE), 0, 5);
        repairs("4 bits of the check", Rows.bits(ZEROS, START, BAD_FIVE, END, "1000"), -1, -1);
        repairs("no check", Rows.bits(ZEROS, START, BAD_FIVE, END), -1, -1);
        repairs("4 bits of the end", Rows.bits(ZEROS, START, BAD_FIVE, "1111"), -1, -1);
        repairs("no end", Rows.bits(ZEROS, START, BAD_FIVE), -1, -1);
        repairs("no end, but right letters", Rows.bits(ZEROS, START, BAD_FIVE, FIVE, "00001", FIVE), -1, -1);
        repairs("only an end with even parity", Rows.bits(ZEROS, START, FIVE, "11110", CHECK_OF_FIVE), -1, -1);
        repairs("15 with even parity ahead of it", Rows.bits(ZEROS, START, FIVE, "11110", END, CHECK_OF_FIVE), 1, 0);
        repairs("15 with even parity as the first letter", Rows.bits(ZEROS, START, "11110", END, CHECK_OF_FIVE), 0, 5);
        repairs("up to the first end", Rows.bits(ZEROS, START, BAD_FIVE, END, END, BAD_FIVE, END, "00001"), 0, 11);
        repairs("behind the check", Rows.bits(ZEROS, START, BAD_FIVE, END, CHECK_OF_FIVE, BAD_FIVE, "101"), 0, 5);
    }

    private void repairOne() {
        repairs("the only letter", Rows.bits(ZEROS, START, BAD_FIVE, END, CHECK_OF_FIVE), 0, 5);
        repairs("the first of two", Rows.bits(ZEROS, START, BAD_FIVE, FIVE, END, "00100"), 0, 5);
        repairs("the last of two", Rows.bits(ZEROS, START, FIVE, BAD_FIVE, END, "00100"), 1, 5);
        repairs("both of two", Rows.bits(ZEROS, START, BAD_FIVE, BAD_FIVE, END, "00100"), -1, -1);
        repairs("two of three", Rows.bits(ZEROS, START, BAD_FIVE, FIVE, BAD_FIVE, END, FIVE), -1, -1);
        repairs("three of three", Rows.bits(ZEROS, START, BAD_FIVE, BAD_FIVE, BAD_FIVE, END, FIVE), -1, -1);
        repairs("one, and the check", Rows.bits(ZEROS, START, BAD_FIVE, END, "10001"), -1, -1);
        repairs("none but the check", Rows.bits(ZEROS, START, FIVE, END, "10001"), -1, -1);
        repairs("no letters, the check", Rows.bits(ZEROS, START, END, "00101"), -1, -1);
        repairs("one, and 15 with even parity", Rows.bits(ZEROS, START, BAD_FIVE, "11110", END, CHECK_OF_FIVE), -1, -1);
    }

    private void repairNumbers() {
        for (int number = 0; number <= 15; number++) {
            StripeSwipes x = Rows.bits(ZEROS, START, FIVE, "00000", END, Rows.group(11 ^ 5 ^ number ^ 15));
            repairs("the number " + number, x, 1, number);
        }
        repairs("the parity bit alone was wrong", Rows.bits(ZEROS, START, BAD_FIVE, END, CHECK_OF_FIVE), 0, 5);
        repairs("a check with the number 15", Rows.bits(ZEROS, START, BAD_FIVE, END, END), 0, 11);
        String letters = "00001".repeat(19);
        repairs("the last of 20", Rows.bits(ZEROS, START, letters, "00000", END, "00100"), 19, 0);
        repairs("the first of 20", Rows.bits(ZEROS, START, "00000", letters, END, "00100"), 0, 0);
        StripeSwipes x = Rows.card("12=9");
        x.join(18);
        repairs("dirt that joined the halves of a bit 1", x, 0, 1);
        StripeSwipes y = Rows.card("12=9");
        y.scratch(20, 100);
        repairs("a scratch that made a bit 1", y, 0, 1);
    }

    private void ratios(String what, StripeSwipes x, String numbers) {
        is(what, x.ratios(0) + " " + x.ratios(1) + " " + x.ratios(2), numbers);
    }

    /** A card "0" with a clock that stays at 200: bits 0 of 200, bits 1 of 100 and 100, with the limit 2 * ratio. */
    private static StripeSwipes steadyCard() {
        StripeSwipes x = Rows.card("0");
        x.set(2, 0);
        return x;
    }

    private void ratios() {
        sentences.section("Promise 24");
        sentences.of("Finds the ratios that would do.", () -> {
            ratios("halves of 100, of which 50 makes long ones", steadyCard(), "51 95 45");
            StripeSwipes x = steadyCard();
            x.set(1, 50);
            is("the ratio of now is not asked", x.isRight() + " " + x.ratios(2) + " " + x.setting(1), "0 45 50");
            x.turn();
            ratios("backwards they do, too", x, "51 95 45");
        });
        sentences.of("- `what`: 0: the least, 1: the greatest setting 1 with which isRight() would be above 0, "
                + "2: how many of 50 to 95 there are", this::edgeRatios);
        sentences.of("Returns the number; NONE for 0 and 1 if there is none.", () -> {
            ratios("without a card", empty(), "-1 -1 0");
            StripeSwipes x = steadyCard();
            x.join(10);
            ratios("none", x, "-1 -1 0");
            StripeSwipes y = steadyCard();
            y.change(5, 103);
            ratios("one alone", y, "51 51 1");
            y.change(5, 101);
            ratios("none between two limits", y, "-1 -1 0");
        });
        sentences.of("Throws `IllegalArgumentException` if what is not 0 to 2", () -> {
            for (int what : new int[] {-1, 3, Integer.MIN_VALUE, Integer.MAX_VALUE}) {
                refuses("what " + what, () -> rich("1"), ARGUMENT, x -> x.ratios(what));
                refuses("what " + what + ", without times", Edges::empty, ARGUMENT, x -> x.ratios(what));
            }
        });
    }

    private void edgeRatios() {
        StripeSwipes x = steadyCard();
        x.change(5, 190);
        ratios("95 does", x, "51 95 45");
        x.change(5, 189);
        ratios("95 does not", x, "51 94 44");
        x.change(10, 101);
        ratios("51 does", x, "51 94 44");
        x.change(10, 102);
        ratios("51 does not", x, "52 94 43");
        StripeSwipes y = steadyCard();
        for (int place = 10; place < 40; place++) {
            if (y.time(place) == 100) {
                y.change(place, 99);
            }
        }
        ratios("50 does", y, "50 95 46");
        y.change(12, 100);
        ratios("50 does not", y, "51 95 45");
        StripeSwipes z = gapOfRatios();
        ratios("50 to 89, and 95, but none between", z, "50 95 41");
    }

    /** Right forwards with 50 to 89, as two bits 0 have 179, and backwards with 95 alone, as halves have 189 there. */
    private static StripeSwipes gapOfRatios() {
        String card = ZEROS + START + "00001" + END + "00100" + ZEROS;
        int[] former = Rows.times(card);
        int[] latter = Rows.times(reversed(card));
        for (int i = 0; i < former.length; i++) {
            former[i] = former[i] == 100 ? 99 : former[i];
        }
        for (int i = 0; i < latter.length; i++) {
            latter[i] = latter[i] == 100 ? 189 : latter[i];
        }
        former[13] = 179;
        former[14] = 179;
        StripeSwipes x = Rows.fit(Rows.card("0"), joined(former, latter));
        x.set(2, 0);
        return x;
    }

    private void greatestJerk() {
        sentences.section("Promise 25");
        sentences.of("Finds the greatest jerk that would do.", () -> {
            StripeSwipes x = jerkCard("1", 5, 64, 80);
            is("up to it, some do not", doingJerks(x), "0-23 35-40 ");
            is("the greatest", x.greatestJerk(), 40);
            x.turn();
            x.join(0);
            is("swiped anew, without dirt", x.greatestJerk(), 40);
            x.set(3, 12);
            is("not by the jerk of now", x.greatestJerk() + " " + x.setting(3), "40 12");
        });
        sentences.of("Returns the greatest setting 3, 0 to 40, with which the card that was written last, swiped anew, "
                + "would be read forwards with the reason 0 and the letters that were written "
                + "(if its row has 200 times at most); NONE if there is none.", this::edgeJerks);
    }

    private static StripeSwipes jerkCard(String text, int zeros, int ratio, int follow) {
        StripeSwipes x = new StripeSwipes();
        x.set(0, zeros);
        x.set(1, ratio);
        x.set(2, follow);
        Rows.type(x, text).write();
        return x;
    }

    /** The jerks with which the card is read, as ranges, found by swiping it with each of them. */
    private static String doingJerks(StripeSwipes x) {
        StringBuilder text = new StringBuilder();
        int first = -1;
        for (int jerk = 0; jerk <= 41; jerk++) {
            boolean does = false;
            if (jerk <= 40) {
                x.set(3, jerk);
                x.swipe();
                does = x.isRight() == 1;
            }
            if (does && first < 0) {
                first = jerk;
            } else if (!does && first >= 0) {
                text.append(first).append('-').append(jerk - 1).append(' ');
                first = -1;
            }
        }
        return text.toString();
    }

    private void edgeJerks() {
        is("40", jerkCard("1", 5, 64, 80).greatestJerk(), 40);
        is("0: its limit is 102, with a jerk of 1 it is 101, a half 101", jerkCard("0", 10, 51, 0).greatestJerk(), 0);
        is("the jerk 0 does", doingJerks(jerkCard("0", 10, 51, 0)), "0-0 ");
        is("none", jerkCard("0", 10, 50, 0).greatestJerk(), -1);
        StripeSwipes other = jerkCard("08", 10, 68, 88);
        is("with a jerk of 39 another card is read", other.greatestJerk(), 19);
        other.set(3, 39);
        other.swipe();
        is("with the reason 0", other.reads(false, 0) + " " + other.isRight(), "0 0");
        is("without a card", empty().greatestJerk(), -1);
        is("a card in the buffer alone", typed("0").greatestJerk(), -1);
        StripeSwipes x = Rows.card("0");
        x.undo();
        is("a card that was undone", x.greatestJerk(), -1);
        StripeSwipes y = full();
        int jerk = y.greatestJerk();
        is("200 times", jerk >= 0, true);
        y.set(0, 9);
        is("198 times", y.greatestJerk() >= 0, true);
        y.set(0, 11);
        is("202 times", y.greatestJerk(), -1);
        y.undo();
        y.undo();
        is("200 times again", y.greatestJerk(), jerk);
    }

    private void shortShare() {
        sentences.section("Promise 26");
        sentences.of("Returns how many short times there are.", () -> {
            is("2 of 4", Rows.row(100, 100, 200, 200).shortShare(), 0.5);
            is("a share, as a double", Rows.row(1, 100, 100).shortShare(), 1.0 / 3);
        });
        sentences.of("Returns the times that are less than the mean of all times times setting 1, divided by 100 "
                + "(the mean and this rounded down), as a double, divided by all times; 0.0 without times.", () -> {
            is("without times", empty().shortShare(), 0.0);
            is("1 time", Rows.row(7).shortShare(), 0.0);
            is("the limit itself", Rows.row(150, 250).shortShare(), 0.0);
            is("less than the limit", Rows.row(149, 251).shortShare(), 0.5);
            is("2.25 is rounded down, 2 is not less", Rows.row(2, 4, 3, 3).shortShare(), 0.0);
            is("the mean 5.5 is rounded down to 5, so the limit is 3", Rows.row(3, 6, 6, 7).shortShare(), 0.0);
            is("2 is less than that", Rows.row(2, 6, 6, 8).shortShare(), 0.25);
            StripeSwipes x = Rows.row(100, 190, 310, 200);
            int[] ratios = {50, 51, 95};
            double[] shares = {0.0, 0.25, 0.25};
            for (int i = 0; i < ratios.length; i++) {
                x.set(1, ratios[i]);
                is("the ratio " + ratios[i], x.shortShare(), shares[i]);
            }
            x.change(1, 189);
            x.change(2, 311);
            is("one less than 190", x.shortShare(), 0.5);
            StripeSwipes y = full();
            is("the mean is 135, the limit 101, and 130 of 200 are halves", y.shortShare(), 0.65);
            y.change(0, 1);
            is("the mean is 134, the limit 100, which no half is less than", y.shortShare(), 0.005);
        });
    }

    private void digest() {
        sentences.section("Promise 27");
        sentences.of("The hash starts at 2963. For each value v of the following list, in order, the hash becomes "
                + "31 * hash + v, in long arithmetic with overflow.", () -> {
            is("few values", empty().digest(), hash(values(empty(), "00", "")));
            StripeSwipes x = Rows.card("7777777777");
            long hash = x.digest();
            List<Long> values = values(x, "00", "");
            is("more than 300 values", values.size() > 300, true);
            is("their hash", hash, hash(values));
            is("it overflows", unbounded(values).bitLength() > 1000, true);
        });
        sentences.of("count(0) to count(6); the settings 0 to 3; all times; all letters that were written; "
                + "forwards, then backwards: reads with 0 to 4, all bits, and all letters that are read; isRight; "
                + "repair with 0 and 1; ratios with 0 to 2; greatestJerk; the bits of shortShare "
                + "(as Double.doubleToLongBits)", () -> {
            StripeSwipes x = rich("");
            is("dirt and scratches", x.digest(), hash(values(x, "11", "")));
            StripeSwipes y = Rows.bits(ZEROS, START, FIVE, BAD_FIVE, END, "01101");
            is("a repair", y.repair(1) + " " + y.digest(), "7 " + hash(values(y, "00", "")));
            StripeSwipes z = Rows.bits(reversed(ZEROS + START + "00001" + END + "00100" + ZEROS));
            is("read backwards", z.isRight() + " " + z.digest(), "2 " + hash(values(z, "00", "")));
            StripeSwipes w = jerkCard("1", 5, 64, 80);
            is("a jerk of 40", w.digest(), hash(values(w, "00", "")));
        });
        sentences.of("for each slot 1 if it has a snapshot, otherwise 0;", () -> {
            String[] slots = {"00", "10", "01", "11"};
            for (String kept : slots) {
                StripeSwipes x = Rows.card("0");
                for (int slot = 0; slot <= 1; slot++) {
                    if (kept.charAt(slot) == '1') {
                        x.keep(slot);
                    }
                }
                is("slots " + kept, x.digest(), hash(values(x, kept, "")));
            }
        });
        sentences.of("the length of the buffer and each of its character codes.", () -> {
            for (String text : new String[] {"", "0", "!~", "0".repeat(40), "ab"}) {
                is("'" + text + "'", typed(text).digest(), hash(values(empty(), "00", text)));
            }
            StripeSwipes x = typed("12");
            x.clearBuffer();
            is("a cleared one", x.digest(), empty().digest());
        });
        sentences.of("Computes a hash of the whole state.", () -> {
            StripeSwipes x = Rows.card("5");
            long before = x.digest();
            x.change(0, 201);
            boolean other = x.digest() != before;
            x.undo();
            is("another one with a time that is longer by 1, the same one undone", other + " " + (x.digest() == before),
                    "true true");
        });
        sentences.of("Returns the hash.", () -> is("the same twice", full().digest(), full().digest()));
    }

    private static BigInteger unbounded(List<Long> values) {
        BigInteger hash = BigInteger.valueOf(2963);
        for (long value : values) {
            hash = hash.multiply(BigInteger.valueOf(31)).add(BigInteger.valueOf(value));
        }
        return hash;
    }

    /** The last 64 bits of the number without overflow, the first of them being the sign. */
    private static long hash(List<Long> values) {
        return unbounded(values).longValue();
    }

    private static List<Long> values(StripeSwipes x, String slots, String buffer) {
        List<Long> all = new ArrayList<>();
        for (int what = 0; what <= 6; what++) {
            all.add((long) x.count(what));
        }
        for (int setting = 0; setting <= 3; setting++) {
            all.add((long) x.setting(setting));
        }
        int times = x.count(0);
        for (int place = 0; place < times; place++) {
            all.add((long) x.time(place));
        }
        int letters = x.count(4);
        for (int place = 0; place < letters; place++) {
            all.add((long) x.written(place));
        }
        addReading(all, x, false);
        addReading(all, x, true);
        all.add((long) x.isRight());
        all.add((long) x.repair(0));
        all.add((long) x.repair(1));
        for (int what = 0; what <= 2; what++) {
            all.add((long) x.ratios(what));
        }
        all.add((long) x.greatestJerk());
        all.add(Double.doubleToLongBits(x.shortShare()));
        for (char slot : slots.toCharArray()) {
            all.add((long) slot - '0');
        }
        all.add((long) buffer.length());
        for (char sign : buffer.toCharArray()) {
            all.add((long) sign);
        }
        return all;
    }

    private static void addReading(List<Long> all, StripeSwipes x, boolean backwards) {
        for (int what = 0; what <= 4; what++) {
            all.add((long) x.reads(backwards, what));
        }
        for (String bit : Rows.bitsRead(x, backwards).split("")) {
            if (!bit.isEmpty()) {
                all.add(Long.parseLong(bit));
            }
        }
        for (String letter : Rows.lettersRead(x, backwards).split(" ")) {
            if (!letter.isEmpty()) {
                all.add(Long.parseLong(letter));
            }
        }
    }
}
