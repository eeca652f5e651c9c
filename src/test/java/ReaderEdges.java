/** The sentences about the reader. Where the clock does not follow, it is 200, and the limit of short times 150. */
final class ReaderEdges extends Edges {
    private static final String FIVE = "10101";
    private static final String BAD_FIVE = "10100";
    private static final String CHECK_OF_FIVE = "10000";

    ReaderEdges(Tally tally, Sentences sentences) {
        super(tally, sentences);
    }

    void run() {
        sentences.section("The reader");
        sentences.of("Its clock is at first the mean of the first 4 times "
                + "(of all, if there are fewer; 0 without times).", this::firstClock);
        sentences.of("it is short if it is less than the clock times setting 1, divided by 100; otherwise it is long.",
                this::limit);
        sentences.of("A long time is a bit 0, a short one makes a bit 1 together with the next time, "
                + "which has to be short, too (by the clock as it is then)", this::twoShortTimes);
        sentences.of("otherwise reading ends with the reason 5 "
                + "(bits ahead of that stay told, and the clock is that behind the last whole bit).", this::brokenBit);
        sentences.of("Behind each bit the clock becomes the clock times (100 less setting 2) and the time of the bit "
                + "(both times of a bit 1 together) times setting 2, divided by 100.", this::followingClock);
        sentences.of("If a short time is the last one, reading ends with the reason 5, too.", this::lastShortTime);
        sentences.of("In the bits the start is looked for: "
                + "the first place from which on 5 bits are those of the start.", this::placeOfStart);
        sentences.of("Behind it each 5 bits are a letter (whatever number, but 15), up to the end "
                + "(the first 5 bits with the number 15, whatever their parity), "
                + "and the 5 bits behind that are the check.", this::groupsBehindStart);
        reasons();
        sentences.allWereQuoted("The reader");
    }

    private void clock(String what, int due, int... times) {
        StripeSwipes x = steady(times);
        is(what, x.reads(false, 4), due);
        x.turn();
        is(what + ", backwards", x.reads(true, 4), due);
    }

    private void firstClock() {
        is("without times", empty().reads(false, 4) + " " + empty().reads(true, 4), "0 0");
        clock("of 1 time", 7, 7);
        clock("of 2 times", 8, 7, 10);
        clock("of 3 times", 8, 7, 8, 11);
        clock("of 3 times, rounded down", 8, 8, 8, 10);
        clock("of 4 times", 9, 8, 8, 10, 10);
        clock("of 4 times, rounded down", 8, 8, 8, 9, 10);
        clock("of 5 times, the fifth is not looked at", 200, 200, 200, 200, 200, 999);
        clock("of 5 times, the first is", 400, 999, 201, 200, 200, 200);
    }

    /** The reading behind four times of 200 with a clock that stays: the reason, and how many bits. */
    private void behind200(String what, String due, int... times) {
        StripeSwipes x = steady(joined(new int[] {200, 200, 200, 200}, times));
        is(what, x.reads(false, 0) + " " + x.reads(false, 1), due);
        x.turn();
        is(what + ", backwards", x.reads(true, 0) + " " + x.reads(true, 1), due);
    }

    private void limit() {
        behind200("the limit itself is long", "1 5", 150);
        behind200("less than it is short", "5 4", 149);
        behind200("two that are less", "1 5", 149, 149);
        int[][] limits = {{50, 100}, {95, 190}, {51, 102}, {94, 188}};
        for (int[] one : limits) {
            StripeSwipes x = steady(200, 200, 200, 200, one[1]);
            x.set(1, one[0]);
            is("the limit of the ratio " + one[0], x.reads(false, 0), 1);
            x.change(4, one[1] - 1);
            is("below the limit of the ratio " + one[0], x.reads(false, 0), 5);
        }
        is("2.25 is rounded down, 2 is long", Rows.read(steady(3, 3, 3, 3, 2, 2), false), "1 6 -1 0 3");
        is("and 1 is short", Rows.read(steady(3, 3, 3, 3, 1, 1), false), "1 5 -1 0 3");
        is("with the clock 1 nothing is short", Rows.read(steady(1, 1, 1, 1), false), "1 4 -1 0 1");
    }

    private void twoShortTimes() {
        behind200("both just short", "1 5", 149, 149);
        behind200("the latter is the limit", "5 4", 149, 150);
        behind200("the former is the limit", "5 5", 150, 149);
        behind200("a short one, a long one, a short one", "5 4", 1, 200, 1);
        behind200("two bits 1", "1 6", 1, 149, 149, 1);
        behind200("three short ones", "5 5", 10, 10, 10);
        StripeSwipes x = Rows.row(200, 200, 200, 200, 1, 149);
        x.set(2, 100);
        is("the former one does not move the clock", Rows.read(x, false), "1 5 -1 0 150");
        is("bits", Rows.bitsRead(x, false), "00001");
    }

    private void brokenBit() {
        StripeSwipes x = Rows.row(200, 200, 200, 200, 240, 149, 200, 200);
        is("broken by a long time", Rows.read(x, false), "5 5 -1 0 220");
        is("bits ahead of that stay told", Rows.bitsRead(x, false), "00000");
        StripeSwipes y = Rows.row(200, 200, 200, 200, 110, 110, 149, 156, 200);
        is("behind a bit 1 the clock is 210, its limit 157", Rows.read(y, false), "1 7 -1 0 228");
        y.change(7, 157);
        is("broken there", Rows.read(y, false), "5 5 -1 0 210");
        is("broken at once", Rows.read(Rows.row(100, 200, 200, 200), false), "5 0 -1 0 175");
        is("without bits", Rows.bitsRead(Rows.row(100, 200, 200, 200), false), "");
        StripeSwipes z = Rows.bits(ZEROS, START, FIVE);
        z.change(z.count(0) - 1, 160);
        is("the start ahead of that stays told", Rows.read(z, false), "5 14 5 0 200");
    }

    private void followingClock() {
        StripeSwipes x = Rows.row(150, 250, 200, 200, 120, 130);
        int[] follows = {0, 100, 50, 1, 99};
        int[] clocks = {200, 250, 226, 199, 249};
        for (int i = 0; i < follows.length; i++) {
            x.set(2, follows[i]);
            is("follows by " + follows[i], x.reads(false, 4), clocks[i]);
        }
        StripeSwipes y = Rows.row(201, 201, 201, 201, 149, 149);
        y.set(2, 33);
        is("divided once, not each part", y.reads(false, 4), 233);
        is("rounded down", Rows.row(200, 200, 200, 200, 201).reads(false, 4), 200);
        StripeSwipes z = Rows.row(200, 200, 200, 200, 120, 131);
        z.set(2, 100);
        is("both times of a bit 1, an odd sum", z.reads(false, 4), 251);
    }

    private void lastShortTime() {
        behind200("short and the last", "5 4", 149);
        behind200("long and the last", "1 5", 150);
        behind200("short and the last behind a bit 1", "5 5", 100, 100, 149);
        is("all alone it is not short", Rows.read(Rows.row(1), false), "1 1 -1 0 1");
        StripeSwipes x = Rows.card("5");
        int many = x.count(0);
        x.change(many - 1, 149);
        is("the last of a card", Rows.read(x, false), "5 39 10 1 200");
        is("which is the first backwards", x.reads(true, 0) == 5, false);
    }

    private void start(String what, String numbers, String... bits) {
        StripeSwipes x = Rows.bits(bits);
        is(what, Rows.read(x, false), numbers + " 200");
        x.turn();
        is(what + ", backwards", Rows.read(x, true), numbers + " 200");
    }

    private void placeOfStart() {
        start("none", "1 8 -1 0", "00001101");
        start("4 bits of it at the end", "1 9 -1 0", ZEROS, "1101");
        start("at the very end", "3 10 5 0", ZEROS, START);
        start("a bit ahead of that", "3 11 5 0", ZEROS, START, "0");
        start("with even parity", "1 11 -1 0", ZEROS, "110110");
        start("the first of two", "3 15 5 1", ZEROS, START, START);
        start("not at a fifth place", "3 13 8 0", ZEROS, "000", START);
        start("behind the beginning of one", "3 14 9 0", ZEROS, "1101", START);
        start("whose beginning is the end of another try", "3 13 8 0", ZEROS, "110" + START);
        StripeSwipes x = Rows.row(90, 90, 110, 110, 220, 110, 110, 220);
        x.set(1, 95);
        x.set(2, 100);
        is("at the place 0", Rows.read(x, false), "3 5 0 0 220");
    }

    private void groupsBehindStart() {
        for (int number = 0; number < 15; number++) {
            int check = 11 ^ number ^ 15;
            StripeSwipes x = Rows.bits(ZEROS, START, Rows.group(number), END, Rows.group(check));
            is("the number " + number, Rows.read(x, false) + ": " + Rows.lettersRead(x, false),
                    "0 25 5 1 200: " + number);
        }
        StripeSwipes x = Rows.bits(ZEROS, START, FIVE, "11110", FIVE, END, Rows.group(4));
        is("an end with even parity is an end", Rows.read(x, false) + ": " + Rows.lettersRead(x, false),
                "2 35 5 1 200: 5");
        StripeSwipes y = Rows.bits(ZEROS, START, FIVE, END, END, FIVE, "00");
        is("an end as the check", Rows.read(y, false), "4 32 5 1 200");
        start("an end as the right check", "0 30 5 1", ZEROS, START, START, END, END, FIVE);
        start("a wrong group behind the check", "0 30 5 1", ZEROS, START, FIVE, END, CHECK_OF_FIVE, BAD_FIVE);
        start("bits that are no group behind the check", "0 28 5 1", ZEROS, START, FIVE, END, CHECK_OF_FIVE, "110");
        start("a start behind the check", "0 30 5 1", ZEROS, START, FIVE, END, CHECK_OF_FIVE, START);
    }

    private void reasons() {
        sentences.of("The reason is the first one of these that is so: "
                + "5 as told (the bits read ahead of that are not looked at)", this::reason5);
        sentences.of("1: there is no start;", () -> {
            is("without times", empty().reads(false, 0) + " " + empty().reads(true, 0), "1 1");
            start("bits 0", "1 5 -1 0", ZEROS);
            start("all but the start", "1 20 -1 0", ZEROS, FIVE, END, CHECK_OF_FIVE);
            start("a wrong start", "1 20 -1 0", ZEROS, "11011", "00000", "00000");
        });
        sentences.of("2 or 3, whichever comes first, from the start on", () -> {
            start("a wrong letter, then over", "2 19 5 0", ZEROS, START, BAD_FIVE, "1010");
            start("a wrong end, then over", "2 20 5 1", ZEROS, START, FIVE, "11110");
            start("a wrong end, then 4 bits", "2 24 5 1", ZEROS, START, FIVE, "11110", "1000");
            start("over within a wrong letter", "3 19 5 1", ZEROS, START, FIVE, "1010");
            start("over within a wrong check", "3 24 5 1", ZEROS, START, FIVE, END, "1111");
        });
        sentences.of("2: a letter, the end, or the check has not odd parity;", () -> {
            start("the first letter", "2 25 5 0", ZEROS, START, BAD_FIVE, END, CHECK_OF_FIVE);
            start("the last letter", "2 30 5 1", ZEROS, START, FIVE, BAD_FIVE, END, "00100");
            start("the end", "2 25 5 1", ZEROS, START, FIVE, "11110", CHECK_OF_FIVE);
            start("the check", "2 25 5 1", ZEROS, START, FIVE, END, "10001");
            start("each parity bit alone", "2 25 5 0", ZEROS, START, "00000", END, CHECK_OF_FIVE);
        });
        sentences.of("3: the bits are over ahead of the end, or of the check;", () -> {
            start("right behind the start", "3 10 5 0", ZEROS, START);
            start("4 bits behind the start", "3 14 5 0", ZEROS, START, "1111");
            start("right ahead of the end", "3 15 5 1", ZEROS, START, FIVE);
            start("4 bits of the end", "3 19 5 1", ZEROS, START, FIVE, "1111");
            start("right ahead of the check", "3 20 5 1", ZEROS, START, FIVE, END);
            start("4 bits of the check", "3 24 5 1", ZEROS, START, FIVE, END, "1000");
            start("all 5 bits of the check", "0 25 5 1", ZEROS, START, FIVE, END, CHECK_OF_FIVE);
        });
        lateReasons();
    }

    private void reason5() {
        String[] good = {ZEROS + START + FIVE + END + CHECK_OF_FIVE, ZEROS + ZEROS, ZEROS + START + BAD_FIVE,
            ZEROS + START, ZEROS + START + FIVE + END + "00100", ZEROS + START + END + "00100"};
        int[] otherwise = {0, 1, 2, 3, 4, 6};
        for (int i = 0; i < good.length; i++) {
            int[] times = Rows.times(good[i]);
            is("without it the reason is", Rows.row(times).reads(false, 0), otherwise[i]);
            StripeSwipes x = Rows.row(joined(times, 149));
            is("with it, and not " + otherwise[i], x.reads(false, 0), 5);
            is("bits ahead of it", x.reads(false, 1), good[i].length());
        }
    }

    private void lateReasons() {
        sentences.of("4: for some of the 4 bits an odd number of "
                + "the start, the letters, the end and the check have it;", () -> {
            String[] checks = {"00001", "11001", "10101", "10011"};
            for (String check : checks) {
                start("one bit differs", "4 25 5 1", ZEROS, START, FIVE, END, check);
            }
            start("all bits differ", "4 25 5 1", ZEROS, START, FIVE, END, "01110");
            start("a wrong check without letters", "4 20 5 0", ZEROS, START, END, "10101");
            start("a wrong check that has even parity", "2 25 5 1", ZEROS, START, FIVE, END, "00000");
        });
        sentences.of("6: there are no letters;", () -> {
            start("none", "6 20 5 0", ZEROS, START, END, "00100");
            start("one", "0 25 5 1", ZEROS, START, "00001", END, "00100");
            start("none, and a wrong end", "2 20 5 0", ZEROS, START, "11110", "00100");
            start("none, and no check", "3 15 5 0", ZEROS, START, END);
        });
        sentences.of("0: the card is read.", () -> {
            start("one letter", "0 25 5 1", ZEROS, START, FIVE, END, CHECK_OF_FIVE);
            start("a letter that is a start", "0 25 5 1", ZEROS, START, START, END, END);
            StripeSwipes x = Rows.card("0".repeat(20));
            is("20 letters", Rows.read(x, false), "0 135 10 20 200");
            StripeSwipes y = Rows.bits(ZEROS, START, "00001".repeat(21), END, "00100");
            is("21 letters, more than a card can have", Rows.read(y, false), "0 125 5 21 200");
        });
    }
}
