/** The sentences of promises 15 to 21: looks. */
final class LookEdges extends Edges {
    private static final String FIVE = "10101";
    private static final String CHECK_OF_FIVE = "10000";

    LookEdges(Tally tally, Sentences sentences) {
        super(tally, sentences);
    }

    void run() {
        time();
        written();
        reads();
        bit();
        letter();
        count();
        setting();
        for (int promise = 15; promise <= 21; promise++) {
            sentences.allWereQuoted("Promise " + promise);
        }
    }

    /** A row of 200 times, made of these bits, each 200, and of bits 0 behind them. */
    private static StripeSwipes longRow(String bits) {
        int[] times = Rows.times(bits);
        return Rows.fit(full(), Rows.times(bits + "0".repeat(200 - times.length)));
    }

    private void time() {
        sentences.section("Promise 15");
        sentences.of("Returns a time of the row.", () -> {
            StripeSwipes x = Rows.row(1, 999, 7);
            is("each of them", x.time(0) + " " + x.time(1) + " " + x.time(2), "1 999 7");
            StripeSwipes y = Rows.row(999, 999, 999);
            y.join(0);
            y.join(0);
            is("above 999", y.time(0), 2997);
        });
        sentences.of("- `place`: its place, from 0", () -> {
            StripeSwipes x = full();
            x.change(0, 11);
            x.change(199, 12);
            is("the first, the 200th", x.time(0) + " " + x.time(199), "11 12");
        });
        sentences.of("Returns the time; NONE if there are not so many.", () -> {
            is("no times", empty().time(0), -1);
            is("behind the last of 1", Rows.row(7).time(1), -1);
            is("behind the last of 200", full().time(200), -1);
            is("the greatest place", full().time(Integer.MAX_VALUE), -1);
            StripeSwipes x = Rows.row(7, 8);
            x.join(0);
            is("a place that a join took", x.time(1), -1);
        });
        sentences.of("Throws `IllegalArgumentException` if place is below 0", () -> {
            for (int place : BELOW_0) {
                refuses("the place " + place, () -> rich("1"), ARGUMENT, x -> x.time(place));
                refuses("the place " + place + ", no times", Edges::empty, ARGUMENT, x -> x.time(place));
            }
        });
    }

    private void written() {
        sentences.section("Promise 16");
        sentences.of("Returns a letter of the card that was written last.", () -> {
            StripeSwipes x = Rows.type(Rows.card("e0="), "5");
            x.turn();
            is("not of the one in the buffer", x.written(0) + " " + x.written(1) + " " + x.written(2), "14 0 13");
            x.write();
            is("of the last of two", x.written(0) + " " + x.written(1), "5 -1");
            x.undo();
            is("of the one before, undone", x.written(0) + " " + x.written(2), "14 13");
        });
        sentences.of("- `place`: its place, from 0", () -> {
            StripeSwipes x = Rows.card("1" + "0".repeat(18) + "2");
            is("the first, the 20th", x.written(0) + " " + x.written(19), "1 2");
        });
        sentences.of("Returns the letter; NONE if there are not so many.", () -> {
            is("no card", empty().written(0), -1);
            is("a card in the buffer alone", typed("5").written(0), -1);
            is("behind the last of 1", Rows.card("0").written(1), -1);
            is("behind the last of 20", Rows.card("0".repeat(20)).written(20), -1);
            is("the greatest place", Rows.card("0").written(Integer.MAX_VALUE), -1);
        });
        sentences.of("Throws `IllegalArgumentException` if place is below 0", () -> {
            for (int place : BELOW_0) {
                refuses("the place " + place, () -> rich("1"), ARGUMENT, x -> x.written(place));
                refuses("the place " + place + ", no card", Edges::empty, ARGUMENT, x -> x.written(place));
            }
        });
    }

    private void reads() {
        sentences.section("Promise 17");
        sentences.of("Tells what the reader reads, forwards or backwards.", () -> {
            is("without times", Rows.read(empty(), false) + ", " + Rows.read(empty(), true), "1 0 -1 0 0, 1 0 -1 0 0");
            StripeSwipes x = Rows.card("5");
            is("a card forwards", Rows.read(x, false), "0 40 10 1 200");
            is("a row of 200 times", Rows.read(full(), false), "0 135 10 20 200");
        });
        sentences.of("- `backwards`: whether the row is read from its last time on", () -> {
            StripeSwipes x = Rows.bits(ZEROS, START, FIVE, END, CHECK_OF_FIVE, "00");
            is("forwards", Rows.read(x, false), "0 27 5 1 200");
            x.turn();
            is("backwards", Rows.read(x, true), "0 27 5 1 200");
            StripeSwipes y = steady(100, 200, 200, 200, 300);
            is("the last time is the first", y.reads(true, 4) + " " + y.reads(false, 4), "225 175");
        });
        readsWhat();
        sentences.of("Returns the number.", () -> {
            StripeSwipes x = Rows.bits(ZEROS, START, FIVE, END, CHECK_OF_FIVE, "00");
            is("each of them", x.reads(false, 0) + " " + x.reads(false, 1) + " " + x.reads(false, 2) + " "
                    + x.reads(false, 3) + " " + x.reads(false, 4), "0 27 5 1 200");
        });
        sentences.of("Throws `IllegalArgumentException` if what is not 0 to 4", () -> {
            for (int what : new int[] {-1, 5, Integer.MIN_VALUE, Integer.MAX_VALUE}) {
                refuses("forwards, " + what, () -> rich("1"), ARGUMENT, x -> x.reads(false, what));
                refuses("backwards, " + what, () -> rich("1"), ARGUMENT, x -> x.reads(true, what));
                refuses("without times, " + what, Edges::empty, ARGUMENT, x -> x.reads(false, what));
            }
        });
    }

    private void readsWhat() {
        sentences.of("0: the reason; 1: how many bits are read (up to the reason 5);", () -> {
            is("all of 200", longRow("").reads(false, 1), 200);
            StripeSwipes x = Rows.row(200, 200, 200, 200, 100, 100, 100, 200, 200);
            is("up to the reason 5", x.reads(false, 0) + " " + x.reads(false, 1), "5 5");
            is("none ahead of the reason 5", Rows.row(100, 200, 200, 200).reads(false, 1), 0);
        });
        sentences.of("2: the place of the start among the bits that are read, NONE without one "
                + "(2 and 3 are told by these bits also with the reason 5);", () -> {
            is("without times", empty().reads(false, 2), -1);
            is("without one", Rows.bits(ZEROS).reads(false, 2), -1);
            StripeSwipes x = steady(joined(Rows.times(ZEROS + START + FIVE + FIVE), 149));
            is("with the reason 5", Rows.read(x, false), "5 20 5 2 200");
            StripeSwipes y = steady(joined(Rows.times(ZEROS + START), 149));
            is("the last 5 bits ahead of the reason 5", Rows.read(y, false), "5 10 5 0 200");
            StripeSwipes z = steady(joined(Rows.times(ZEROS + "1101"), 149, 200));
            is("broken ahead of its last bit", Rows.read(z, false), "5 9 -1 0 200");
        });
        sentences.of("3: how many letters there are between the start and the end (or up to the first 5 bits without "
                + "odd parity, or to where 5 bits are no more there), 0 without a start;", this::readsLetters);
        sentences.of("4: the clock in the end", () -> {
            is("without times", empty().reads(false, 4), 0);
            is("behind the last bit", Rows.row(200, 200, 200, 200, 300).reads(false, 4), 250);
            is("behind the last whole bit", Rows.row(200, 200, 200, 200, 300, 10).reads(false, 4), 250);
            is("without any bit", Rows.row(100, 200, 200, 200).reads(false, 4), 175);
        });
    }

    private void letters(String what, int due, String... bits) {
        StripeSwipes x = Rows.bits(bits);
        is(what, x.reads(false, 3), due);
        x.turn();
        is(what + ", backwards", x.reads(true, 3), due);
    }

    private void readsLetters() {
        is("without times", empty().reads(false, 3), 0);
        letters("without a start", 0, ZEROS, FIVE, END, CHECK_OF_FIVE);
        letters("none ahead of the end", 0, ZEROS, START, END, FIVE, CHECK_OF_FIVE);
        letters("one ahead of the end", 1, ZEROS, START, FIVE, END, FIVE);
        letters("up to an end with even parity", 1, ZEROS, START, FIVE, "11110", FIVE);
        letters("up to 5 bits without odd parity", 2, ZEROS, START, FIVE, FIVE, "10100", FIVE, END);
        letters("at once without odd parity", 0, ZEROS, START, "10100", FIVE, END);
        letters("no bits behind the start", 0, ZEROS, START);
        letters("4 bits behind the start", 0, ZEROS, START, "1010");
        letters("5 bits behind the start", 1, ZEROS, START, FIVE);
        letters("9 bits behind the start", 1, ZEROS, START, FIVE, "1010");
        StripeSwipes x = longRow("0000" + START + "00001".repeat(31));
        is("as many as 200 times hold behind 4 bits 0", x.reads(false, 3) + " " + x.reads(false, 1), "31 166");
    }

    private void bit() {
        sentences.section("Promise 18");
        sentences.of("Returns a bit that is read.", () -> {
            StripeSwipes x = Rows.bits(ZEROS, "10");
            is("bits", Rows.bitsRead(x, false), ZEROS + "10");
        });
        sentences.of("- `backwards`: as told for reads()", () -> {
            StripeSwipes x = Rows.bits(ZEROS, "10", ZEROS, "0");
            is("both ways", Rows.bitsRead(x, false) + " " + Rows.bitsRead(x, true), "0000010000000 0000000100000");
        });
        sentences.of("- `place`: its place, from 0", () -> {
            StripeSwipes x = steady(50, 50, 300, 300, 300);
            is("the first, the last", x.bit(false, 0) + " " + x.bit(false, 1) + " " + x.bit(false, 3), "1 0 0");
            StripeSwipes y = longRow("0".repeat(198) + "1");
            is("the 199th of 200 times", y.bit(false, 198) + " " + y.bit(true, 0), "1 1");
        });
        sentences.of("Returns the bit; NONE if there are not so many.", () -> {
            is("without times", empty().bit(false, 0) + " " + empty().bit(true, 0), "-1 -1");
            StripeSwipes five = Rows.bits(ZEROS);
            is("the last of 5, behind it", five.bit(false, 4) + " " + five.bit(false, 5), "0 -1");
            StripeSwipes x = longRow("");
            is("the 200th, behind it", x.bit(false, 199) + " " + x.bit(false, 200), "0 -1");
            is("the greatest place", x.bit(true, Integer.MAX_VALUE), -1);
            StripeSwipes y = Rows.row(200, 200, 200, 200, 149, 200, 200);
            is("behind the reason 5", y.bit(false, 3) + " " + y.bit(false, 4), "0 -1");
            is("none ahead of the reason 5", Rows.row(100, 200, 200, 200).bit(false, 0), -1);
        });
        sentences.of("Throws `IllegalArgumentException` if place is below 0", () -> {
            for (int place : BELOW_0) {
                refuses("forwards, " + place, () -> rich("1"), ARGUMENT, x -> x.bit(false, place));
                refuses("backwards, " + place, () -> rich("1"), ARGUMENT, x -> x.bit(true, place));
                refuses("without times, " + place, Edges::empty, ARGUMENT, x -> x.bit(false, place));
            }
        });
    }

    private void letter() {
        sentences.section("Promise 19");
        sentences.of("Returns a letter that is read.", () -> {
            StripeSwipes x = Rows.bits(ZEROS, START, "00001", START, "01110", END, FIVE);
            is("any number but 15", Rows.lettersRead(x, false), "0 11 14");
            is("not one that was written", Rows.bits(ZEROS).letter(false, 0), -1);
        });
        sentences.of("- `backwards`: as told for reads()", () -> {
            StripeSwipes x = Rows.card("5");
            is("forwards", Rows.lettersRead(x, false), "5");
            x.turn();
            is("backwards", Rows.lettersRead(x, true), "5");
        });
        sentences.of("- `place`: its place, from 0, among those that reads() counts with 3", () -> {
            StripeSwipes x = longRow("0000" + START + "10000" + "00001".repeat(29) + "01000");
            is("the first, the last of 31", x.letter(false, 0) + " " + x.letter(false, 30), "1 2");
            StripeSwipes y = Rows.bits(ZEROS, START, FIVE, "10100", FIVE);
            is("up to wrong parity", Rows.lettersRead(y, false), "5");
            StripeSwipes z = steady(joined(Rows.times(ZEROS + START + FIVE + "0010"), 149));
            is("up to where 5 bits are no more there", z.reads(false, 0) + ": " + Rows.lettersRead(z, false), "5: 5");
        });
        sentences.of("Returns the letter; NONE if there are not so many.", () -> {
            is("without times", empty().letter(false, 0) + " " + empty().letter(true, 0), "-1 -1");
            is("the end is none", Rows.card("5").letter(false, 1), -1);
            is("behind 20", Rows.card("0".repeat(20)).letter(false, 20), -1);
            is("no letters", Rows.bits(ZEROS, START, END, "00100").letter(false, 0), -1);
            is("behind 31", longRow("0000" + START + "00001".repeat(31)).letter(false, 31), -1);
            is("the greatest place", Rows.card("5").letter(false, Integer.MAX_VALUE), -1);
        });
        sentences.of("Throws `IllegalArgumentException` if place is below 0", () -> {
            for (int place : BELOW_0) {
                refuses("forwards, " + place, () -> rich("1"), ARGUMENT, x -> x.letter(false, place));
                refuses("backwards, " + place, () -> rich("1"), ARGUMENT, x -> x.letter(true, place));
                refuses("without times, " + place, Edges::empty, ARGUMENT, x -> x.letter(false, place));
            }
        });
    }

    private static String counts(StripeSwipes x) {
        StringBuilder text = new StringBuilder();
        for (int what = 0; what <= 6; what++) {
            text.append(what == 0 ? "" : " ").append(x.count(what));
        }
        return text.toString();
    }

    private void count() {
        sentences.section("Promise 20");
        sentences.of("Returns a number.", () -> is("each of them", counts(rich("1")), "62 8869 9 404 2 12 6"));
        sentences.of("0: times; 1: all times together; 2: the least time, 3: the greatest one, "
                + "0 for both without times; 4: letters of the card that was written last; "
                + "5: its check, NONE without a card; 6: saved states", this::countWhat);
        sentences.of("Returns the number.", () -> {
            is("of a full row", counts(full()), "200 27000 100 200 20 4 1");
        });
        sentences.of("Throws `IllegalArgumentException` if what is not 0 to 6", () -> {
            for (int what : new int[] {-1, 7, Integer.MIN_VALUE, Integer.MAX_VALUE}) {
                refuses("what " + what, () -> rich("1"), ARGUMENT, x -> x.count(what));
                refuses("what " + what + ", a new object", Edges::empty, ARGUMENT, x -> x.count(what));
            }
        });
    }

    private void countWhat() {
        is("without times and card", counts(empty()), "0 0 0 0 0 -1 0");
        StripeSwipes x = Rows.row(7);
        is("1 time", x.count(0) + " " + x.count(1) + " " + x.count(2) + " " + x.count(3), "1 7 7 7");
        StripeSwipes y = Rows.row(5, 9, 1);
        is("the last is the least", y.count(1) + " " + y.count(2) + " " + y.count(3), "15 1 9");
        StripeSwipes z = Rows.row(5, 1, 9);
        is("the last is the greatest", z.count(2) + " " + z.count(3), "1 9");
        is("the first is the least", Rows.row(1, 9, 5).count(2), 1);
        is("the first is the greatest", Rows.row(9, 1, 5).count(3), 9);
        StripeSwipes great = full();
        for (int place = 0; place < 200; place++) {
            great.change(place, 999);
        }
        is("200 times of 999", great.count(1) + " " + great.count(2) + " " + great.count(3), "199800 999 999");
        is("20 letters", Rows.card("0".repeat(20)).count(4), 20);
        is("the check 0", Rows.card("4").count(5), 0);
        is("the check 15", Rows.card("1a").count(5), 15);
        StripeSwipes undone = Rows.card("4");
        undone.undo();
        is("a card that was undone", counts(undone), "0 0 0 0 0 -1 0");
        StripeSwipes saved = new StripeSwipes();
        StringBuilder text = new StringBuilder();
        for (int i = 0; i < 8; i++) {
            text.append(saved.count(6)).append(' ');
            saved.turn();
        }
        is("saved states", text.toString(), "0 1 2 3 4 5 6 6 ");
    }

    private void setting() {
        sentences.section("Promise 21");
        sentences.of("Returns a setting.", () -> {
            StripeSwipes x = empty();
            is("at first", x.setting(0) + " " + x.setting(1) + " " + x.setting(2) + " " + x.setting(3), "10 75 50 0");
        });
        sentences.of("- `setting`: 0 to 3", () -> {
            StripeSwipes x = new StripeSwipes();
            x.set(0, 30);
            x.set(3, 40);
            is("the first, the last", x.setting(0) + " " + x.setting(3), "30 40");
        });
        sentences.of("Returns its value.", () -> {
            StripeSwipes x = new StripeSwipes();
            x.set(2, 0);
            is("the value 0", x.setting(2), 0);
            x.undo();
            is("undone", x.setting(2), 50);
        });
        sentences.of("Throws `IndexOutOfBoundsException` if there is no such setting", () -> {
            for (int setting : new int[] {-1, 4, Integer.MIN_VALUE, Integer.MAX_VALUE}) {
                refuses("the setting " + setting, () -> rich("1"), INDEX, x -> x.setting(setting));
            }
        });
    }
}
