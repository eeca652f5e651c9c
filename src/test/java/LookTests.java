/** Promises 15 to 21: looks. */
final class LookTests {
    private static final Class<?> INDEX = IndexOutOfBoundsException.class;
    private static final Class<?> ARGUMENT = IllegalArgumentException.class;
    private static final String ZEROS = "00000";
    private static final String START = Rows.group(11);
    private static final String END = Rows.group(15);
    private static final int[] BELOW = {-1, -2, Integer.MIN_VALUE};

    private final Tally tally;

    private LookTests(Tally tally) {
        this.tally = tally;
    }

    static void run(Tally tally) {
        LookTests tests = new LookTests(tally);
        tests.time();
        tests.written();
        tests.clock();
        tests.shortTimes();
        tests.reasons();
        tests.brokenReading();
        tests.start();
        tests.readsRefuses();
        tests.bit();
        tests.letter();
        tests.count();
        tests.setting();
        tests.looksChangeNothing();
    }

    private void time() {
        StripeSwipes x = Rows.row(7, 8, 9);
        tally.is("15: times", x.time(0) + " " + x.time(2), "7 9");
        tally.is("15: no more", x.time(3) + " " + x.time(Integer.MAX_VALUE), "-1 -1");
        for (int place : BELOW) {
            tally.refuses("15: place " + place, x, ARGUMENT, () -> x.time(place));
        }
        x.join(0);
        tally.is("15: a time that is gone", x.time(2), -1);
        tally.is("15: no times", new StripeSwipes().time(0), -1);
    }

    private void written() {
        StripeSwipes x = Rows.card("e=0");
        tally.is("16: letters", x.written(0) + " " + x.written(1) + " " + x.written(2), "14 13 0");
        tally.is("16: no more", x.written(3) + " " + x.written(Integer.MAX_VALUE), "-1 -1");
        for (int place : BELOW) {
            tally.refuses("16: place " + place, x, ARGUMENT, () -> x.written(place));
        }
        x.turn();
        tally.is("16: what was written, not what is read", x.written(0), 14);
        Rows.type(x, "4").write();
        tally.is("16: a shorter card", x.written(0) + " " + x.written(1), "4 -1");
        tally.is("16: no card", new StripeSwipes().written(0), -1);
    }

    private void clock() {
        tally.is("17: one time", Rows.read(Rows.row(3), false), "1 1 -1 0 3");
        tally.is("17: the mean of two", Rows.read(Rows.row(7, 8), false), "1 2 -1 0 7");
        tally.is("17: the clock rounds down", Rows.read(Rows.row(150, 250, 200, 200), false), "1 4 -1 0 203");
        StripeSwipes x = Rows.row(150, 250, 200, 200, 400);
        x.set(2, 0);
        tally.is("17: follows not, the mean of the first 4", Rows.read(x, false), "1 5 -1 0 200");
        tally.is("17: the mean of the last 4", Rows.read(x, true), "5 4 -1 0 262");
        x.set(2, 100);
        tally.is("17: follows at once", Rows.read(x, false), "1 5 -1 0 400");
        StripeSwipes y = Rows.row(201, 201, 201, 201, 149, 149);
        y.set(2, 33);
        tally.is("17: divided once", Rows.read(y, false), "1 5 -1 0 233");
    }

    private void shortTimes() {
        tally.is("17: the limit is long", Rows.read(Rows.row(200, 200, 200, 200, 150), false), "1 5 -1 0 175");
        tally.is("17: a short time is the last", Rows.read(Rows.row(200, 200, 200, 200, 149), false), "5 4 -1 0 200");
        tally.is("17: the next is long", Rows.read(Rows.row(200, 200, 200, 200, 149, 150), false), "5 4 -1 0 200");
        tally.is("17: two short", Rows.read(Rows.row(200, 200, 200, 200, 149, 149), false), "1 5 -1 0 249");
        tally.is("17: the first is short", Rows.read(Rows.row(149, 251, 200, 200), false), "5 0 -1 0 200");
        StripeSwipes x = Rows.row(149, 200, 200, 200, 200);
        tally.is("17: forwards", Rows.read(x, false), "1 5 -1 0 198");
        tally.is("17: backwards", Rows.read(x, true), "5 4 -1 0 200");
        x.set(1, 74);
        tally.is("17: another ratio", Rows.read(x, true), "1 5 -1 0 174");
        tally.is("17: the limit rounds down", Rows.read(Rows.row(3, 3, 3, 3, 2), false), "1 5 -1 0 2");
    }

    private void reads(String what, StripeSwipes x, String numbers) {
        tally.is("17: " + what, Rows.read(x, false), numbers);
        x.turn();
        tally.is("17: turned around, " + what, Rows.read(x, true), numbers);
    }

    private void reasons() {
        String five = Rows.group(5);
        reads("0 bits", Rows.bits(ZEROS), "1 5 -1 0 200");
        reads("a card", Rows.bits(ZEROS, START, five, END, Rows.group(1), ZEROS), "0 30 5 1 200");
        reads("nothing behind the check", Rows.bits(ZEROS, START, five, END, Rows.group(1)), "0 25 5 1 200");
        reads("a wrong letter", Rows.bits(ZEROS, START, Rows.bad(5), END, Rows.group(1), ZEROS), "2 30 5 0 200");
        reads("the second letter", Rows.bits(ZEROS, START, five, Rows.bad(5), five, END, START), "2 35 5 1 200");
        reads("a wrong letter, then over", Rows.bits(ZEROS, START, five, Rows.bad(2), "00"), "2 22 5 1 200");
        reads("over, then nothing", Rows.bits(ZEROS, START), "3 10 5 0 200");
        reads("over ahead of the end", Rows.bits(ZEROS, START, five, "0000"), "3 19 5 1 200");
        reads("over ahead of the check", Rows.bits(ZEROS, START, five, END, "1000"), "3 24 5 1 200");
        reads("over right behind the end", Rows.bits(ZEROS, START, five, END), "3 20 5 1 200");
        reads("a wrong end", Rows.bits(ZEROS, START, five, Rows.bad(15), Rows.group(1), ZEROS), "2 30 5 1 200");
        reads("a wrong end, then over", Rows.bits(ZEROS, START, five, Rows.bad(15)), "2 20 5 1 200");
        reads("a wrong check", Rows.bits(ZEROS, START, five, END, Rows.bad(1), ZEROS), "2 30 5 1 200");
        for (int k = 0; k < 4; k++) {
            reads("bit " + k, Rows.bits(ZEROS, START, five, END, Rows.group(1 ^ 1 << k), ZEROS), "4 30 5 1 200");
        }
        reads("no letters", Rows.bits(ZEROS, START, END, Rows.group(4), ZEROS), "6 25 5 0 200");
        reads("no letters, not even", Rows.bits(ZEROS, START, END, Rows.group(5), ZEROS), "4 25 5 0 200");
        reads("no letters, a wrong check", Rows.bits(ZEROS, START, END, Rows.bad(4), ZEROS), "2 25 5 0 200");
        reads("an end as the check", Rows.bits(ZEROS, START, START, END, END, ZEROS), "0 30 5 1 200");
    }

    /** The reason 5 goes ahead of all others; the start and the letters are told all the same. */
    private void brokenReading() {
        String card = ZEROS + START + Rows.group(5) + Rows.group(6);
        int[][] ends = {Rows.times(""), Rows.times(END + Rows.group(7)), Rows.times(Rows.bad(3)),
            Rows.times(END + "00")};
        int[] bits = {20, 30, 25, 27};
        for (int i = 0; i < ends.length; i++) {
            int[] head = Rows.times(card);
            int[] times = new int[head.length + ends[i].length + 2];
            System.arraycopy(head, 0, times, 0, head.length);
            System.arraycopy(ends[i], 0, times, head.length, ends[i].length);
            times[times.length - 2] = 149;
            times[times.length - 1] = 151;
            reads("broken " + i, Rows.row(times), "5 " + bits[i] + " 5 2 200");
        }
        StripeSwipes x = Rows.row(Rows.times(card));
        x.change(8, 160);
        tally.is("17: broken within the start", Rows.read(x, false), "5 6 -1 0 200");
    }

    private void start() {
        reads("two starts", Rows.bits(ZEROS, START, START, Rows.group(5), END, Rows.group(10)), "0 30 5 2 200");
        reads("at an odd place", Rows.bits(ZEROS, "00", START, Rows.group(5), END, Rows.group(1)), "0 27 7 1 200");
        reads("a start with even parity", Rows.bits(ZEROS, Rows.bad(11), ZEROS), "1 15 -1 0 200");
        reads("a start with a bit before", Rows.bits(ZEROS, "1", START, END, Rows.group(4)), "6 21 6 0 200");
        reads("4 bits of a start", Rows.bits(ZEROS, "1101"), "1 9 -1 0 200");
        reads("the last 5 bits", Rows.bits(ZEROS, "00011010"), "3 13 8 0 200");
    }

    private void readsRefuses() {
        StripeSwipes x = Rows.card("5");
        for (int what : new int[] {-1, 5, Integer.MAX_VALUE, Integer.MIN_VALUE}) {
            tally.refuses("17: what " + what, x, ARGUMENT, () -> x.reads(false, what));
            tally.refuses("17: backwards, what " + what, x, ARGUMENT, () -> x.reads(true, what));
        }
    }

    private void bit() {
        String bits = ZEROS + START + "0110";
        StripeSwipes x = Rows.bits(bits);
        for (int i = 0; i < bits.length(); i++) {
            tally.is("18: bit " + i, x.bit(false, i), bits.charAt(i) - '0');
        }
        tally.is("18: no more", x.bit(false, 14) + " " + x.bit(false, Integer.MAX_VALUE), "-1 -1");
        x.turn();
        tally.is("18: backwards", Rows.bitsRead(x, true), bits);
        StripeSwipes y = Rows.row(200, 200, 100, 100, 200, 100, 200);
        tally.is("18: up to the reason 5", Rows.bitsRead(y, false), "0010");
        for (int place : BELOW) {
            tally.refuses("18: place " + place, x, ARGUMENT, () -> x.bit(false, place));
            tally.refuses("18: backwards, place " + place, x, ARGUMENT, () -> x.bit(true, place));
        }
        tally.is("18: no times", new StripeSwipes().bit(false, 0), -1);
    }

    private void letter() {
        StripeSwipes x = Rows.bits(ZEROS, START, Rows.group(8), Rows.group(1), START, END, Rows.group(6));
        tally.is("19: letters", Rows.lettersRead(x, false) + " " + x.reads(false, 0), "8 1 11 0");
        tally.is("19: no more", x.letter(false, 3) + " " + x.letter(false, Integer.MAX_VALUE), "-1 -1");
        x.turn();
        tally.is("19: backwards", Rows.lettersRead(x, true), "8 1 11");
        StripeSwipes y = Rows.bits(ZEROS, START, Rows.group(8), Rows.bad(1), Rows.group(2));
        tally.is("19: up to a wrong letter", Rows.lettersRead(y, false), "8");
        StripeSwipes z = Rows.bits(ZEROS, START, Rows.group(8), Rows.group(2), "1000");
        tally.is("19: up to where bits lack", Rows.lettersRead(z, false), "8 2");
        for (int place : BELOW) {
            tally.refuses("19: place " + place, x, ARGUMENT, () -> x.letter(false, place));
            tally.refuses("19: backwards, place " + place, x, ARGUMENT, () -> x.letter(true, place));
        }
        tally.is("19: no times", new StripeSwipes().letter(true, 0), -1);
        tally.is("19: what is read, not what was written", Rows.bits(ZEROS, START, Rows.group(9)).letter(false, 0), 9);
    }

    private void count() {
        StripeSwipes x = Rows.row(70, 5, 999, 6);
        x.undo();
        int[] counts = {4, 1080 - 6 + x.time(3), 5, 999, 1, 4, 5};
        for (int what = 0; what <= 6; what++) {
            tally.is("20: count " + what, x.count(what), counts[what]);
        }
        for (int what : new int[] {-1, 7, Integer.MAX_VALUE, Integer.MIN_VALUE}) {
            tally.refuses("20: what " + what, x, ARGUMENT, () -> x.count(what));
        }
        tally.is("20: the check of 12=9", Rows.card("12=9").count(5), 3);
        tally.is("20: letters of 12=9", Rows.card("12=9").count(4), 4);
        StripeSwipes y = Rows.row(9, 2);
        tally.is("20: the first is the greatest", y.count(3) + " " + y.count(2), "9 2");
        y.turn();
        tally.is("20: the first is the least", y.count(3) + " " + y.count(2), "9 2");
    }

    private void setting() {
        StripeSwipes x = new StripeSwipes();
        int[] values = {30, 50, 100, 40};
        for (int i = 0; i <= 3; i++) {
            x.set(i, values[i]);
            tally.is("21: setting " + i, x.setting(i), values[i]);
        }
        for (int setting : new int[] {-1, 4, Integer.MAX_VALUE, Integer.MIN_VALUE}) {
            tally.refuses("21: setting " + setting, x, INDEX, () -> x.setting(setting));
        }
    }

    private void looksChangeNothing() {
        StripeSwipes x = Rows.type(Rows.cardWithJerk("12=9", 11), "4b");
        x.keep(1);
        long before = x.digest();
        for (int i = 0; i < 3; i++) {
            x.time(i);
            x.written(i);
            x.reads(true, i);
            x.bit(true, i);
            x.letter(true, i);
            x.count(i);
            x.setting(i);
            x.ratios(i);
            x.repair(i % 2);
        }
        x.isRight();
        x.greatestJerk();
        x.shortShare();
        tally.is("15 to 27: looks change nothing", x.digest(), before);
    }
}
