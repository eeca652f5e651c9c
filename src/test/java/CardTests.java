/** Promises 1 to 8: a new object, cards and times. */
final class CardTests {
    private static final Class<?> INDEX = IndexOutOfBoundsException.class;
    private static final Class<?> ARGUMENT = IllegalArgumentException.class;
    private static final Class<?> STATE = IllegalStateException.class;

    /** Its row has 200 times with 10 bits 0 ahead and behind: 135 bits, 65 of them 1. */
    static final String FULL = "777777777777777777" + "00";
    private static final String TOO_LONG = "77777777777777777777";

    private final Tally tally;

    private CardTests(Tally tally) {
        this.tally = tally;
    }

    static void run(Tally tally) {
        CardTests tests = new CardTests(tally);
        tests.newObject();
        tests.write();
        tests.writeRefuses();
        tests.swipe();
        tests.swipeRefuses();
        tests.turn();
        tests.join();
        tests.scratch();
        tests.change();
        tests.set();
    }

    private void newObject() {
        StripeSwipes x = new StripeSwipes();
        tally.is("1: NONE", StripeSwipes.NONE, -1);
        int[] counts = {0, 0, 0, 0, 0, -1, 0};
        for (int what = 0; what <= 6; what++) {
            tally.is("1: count " + what, x.count(what), counts[what]);
        }
        int[] settings = {10, 75, 50, 0};
        for (int setting = 0; setting <= 3; setting++) {
            tally.is("1: setting " + setting, x.setting(setting), settings[setting]);
        }
        tally.is("1: no times are read", Rows.read(x, false) + "; " + Rows.read(x, true), "1 0 -1 0 0; 1 0 -1 0 0");
        tally.is("1: the buffer", x.clearBuffer(), 0);
        tally.refuses("1: slot 0", x, STATE, () -> x.goBack(0));
        tally.refuses("1: slot 1", x, STATE, () -> x.goBack(1));
        tally.refuses("1: saved states", x, STATE, x::undo);
        StripeSwipes other = Rows.card("7");
        tally.is("1: objects share nothing", x.count(0) + " " + other.count(0), "0 54");
    }

    private void write() {
        StripeSwipes x = new StripeSwipes();
        x.set(0, 5);
        Rows.type(x, "0");
        tally.is("2: times of a 0", x.write(), 40);
        tally.is("2: the row of a 0", Rows.all(x), "200 200 200 200 200 100 100 100 100 200 100 100 200 "
                + "200 200 200 200 100 100 100 100 100 100 100 100 100 100 100 100 "
                + "200 200 100 100 200 200 200 200 200 200 200");
        tally.is("2: the buffer is cleared", x.clearBuffer(), 0);
        tally.is("2: saves the state", x.count(6), 2);
        x.set(3, 7);
        Rows.type(x, "0");
        x.write();
        tally.is("2: with a jerk", Rows.all(x), "186 193 200 207 214 93 93 96 97 200 103 104 214 "
                + "186 193 200 207 107 107 93 93 96 97 100 100 103 104 107 107 "
                + "186 193 100 100 207 214 186 193 200 207 214");
        Rows.type(x, "ac=e9");
        tally.is("2: another card", x.write(), 50 + 24);
        int[] letters = {10, 12, 13, 14, 9, -1};
        for (int i = 0; i < letters.length; i++) {
            tally.is("2: letter " + i, x.written(i), letters[i]);
        }
        tally.is("2: the check", x.count(5), 11 ^ 10 ^ 12 ^ 13 ^ 14 ^ 9 ^ 15);
        tally.is("2: undoable", x.undo() + " " + x.count(0) + " " + x.written(0) + " " + x.clearBuffer(), "4 40 0 0");
        tally.is("2: 200 times are allowed", Rows.type(new StripeSwipes(), FULL).write(), 200);
        for (int letter = 0; letter < 16; letter++) {
            if (letter != 11 && letter != 15) {
                StripeSwipes y = Rows.card("" + "0123456789a_c=e".charAt(letter));
                tally.is("2: the card of " + letter, Rows.bitsRead(y, false), "0000000000" + Rows.group(11)
                        + Rows.group(letter) + Rows.group(15) + Rows.group(letter ^ 4) + "0000000000");
            }
        }
    }

    private void writeRefuses() {
        StripeSwipes x = Rows.card("5");
        tally.refuses("2: an empty buffer", x, ARGUMENT, x::write);
        for (String text : new String[] {"b", "d", "f", "A", "C", "/", ":", "12?", "1;", "=<", "0>",
            "0".repeat(21), "0".repeat(40), TOO_LONG + "x"}) {
            x.clearBuffer();
            Rows.type(x, text);
            tally.refuses("2: " + text, x, ARGUMENT, x::write);
            tally.is("2: " + text + " stays", x.clearBuffer(), text.length());
        }
        Rows.type(x, TOO_LONG);
        tally.refuses("2: more than 200 times", x, STATE, x::write);
        x.set(0, 5);
        tally.is("2: fewer bits 0 make room", x.write(), 194);
        x.set(0, 11);
        Rows.type(x, FULL);
        tally.refuses("2: 202 times", x, STATE, x::write);
        tally.is("2: the buffer is still there", x.clearBuffer(), 20);
    }

    private void swipe() {
        StripeSwipes x = Rows.card("5");
        String clean = Rows.all(x);
        x.join(0);
        x.scratch(7, 20);
        x.change(9, 3);
        tally.is("3: times", x.swipe(), 52);
        tally.is("3: dirt and scratches are gone", Rows.all(x), clean);
        tally.is("3: saves the state", x.count(6), 5);
        x.set(0, 6);
        x.set(3, 1);
        tally.is("3: the settings of now", x.swipe() + " " + x.time(0) + " " + x.time(4), "44 198 202");
        tally.is("3: the card stays", x.count(4) + " " + x.written(0), "1 5");
        tally.is("3: undoable", x.undo() + " " + (x.count(0) + " " + x.setting(3)), "5 52 1");
        x.turn();
        x.swipe();
        tally.is("3: turned back, too", x.time(0) + " " + x.isRight(), "198 1");
    }

    private void swipeRefuses() {
        StripeSwipes x = new StripeSwipes();
        tally.refuses("3: no card", x, STATE, x::swipe);
        Rows.type(x, "5");
        tally.refuses("3: a card in the buffer alone", x, STATE, x::swipe);
        x.write();
        x.undo();
        tally.refuses("3: a card that was undone", x, STATE, x::swipe);
        x.clearBuffer();
        Rows.type(x, FULL).write();
        tally.is("3: 200 times", x.swipe(), 200);
        x.set(0, 11);
        tally.refuses("3: 202 times", x, STATE, x::swipe);
    }

    private void turn() {
        StripeSwipes x = new StripeSwipes();
        tally.is("4: without times", x.turn() + " " + x.count(6), "0 1");
        StripeSwipes y = Rows.row(7, 8, 9);
        tally.is("4: the first time then", y.turn(), 9);
        tally.is("4: the row", Rows.all(y), "9 8 7");
        y.undo();
        tally.is("4: undoable", Rows.all(y), "7 8 9");
        StripeSwipes z = Rows.row(4, 3, 2, 1);
        tally.is("4: an even number", z.turn() + ": " + Rows.all(z), "1: 1 2 3 4");
        tally.is("4: one time", Rows.row(6).turn(), 6);
    }

    private void join() {
        StripeSwipes x = Rows.row(7, 8, 9);
        tally.is("5: the sum", x.join(1), 17);
        tally.is("5: the row", Rows.all(x), "7 17");
        x.undo();
        tally.is("5: undoable", Rows.all(x), "7 8 9");
        tally.is("5: the first ones", x.join(0) + ": " + Rows.all(x), "15: 15 9");
        for (int place : new int[] {-1, 1, 2, 3, Integer.MAX_VALUE, Integer.MIN_VALUE}) {
            tally.refuses("5: place " + place, x, INDEX, () -> x.join(place));
        }
        x.join(0);
        tally.refuses("5: one time", x, INDEX, () -> x.join(0));
        StripeSwipes y = new StripeSwipes();
        tally.refuses("5: no times", y, INDEX, () -> y.join(0));
        StripeSwipes z = Rows.row(999, 999, 999);
        z.join(0);
        tally.is("5: above 999", z.join(0), 2997);
    }

    private void scratch() {
        StripeSwipes x = Rows.row(7, 8, 9);
        tally.is("6: times", x.scratch(1, 3), 4);
        tally.is("6: the row", Rows.all(x), "7 3 5 9");
        x.undo();
        tally.is("6: undoable", Rows.all(x), "7 8 9");
        tally.is("6: the last one", x.scratch(2, 8) + ": " + Rows.all(x), "4: 7 8 8 1");
        tally.is("6: the first one", x.scratch(0, 1) + ": " + Rows.all(x), "5: 1 6 8 8 1");
        for (int place : new int[] {-1, 5, 6, Integer.MAX_VALUE, Integer.MIN_VALUE}) {
            tally.refuses("6: place " + place, x, INDEX, () -> x.scratch(place, 0));
        }
        for (int time : new int[] {-1, 0, 6, 7, Integer.MAX_VALUE, Integer.MIN_VALUE}) {
            tally.refuses("6: time " + time, x, ARGUMENT, () -> x.scratch(1, time));
        }
        tally.refuses("6: a time of 1", x, ARGUMENT, () -> x.scratch(0, 1));
        StripeSwipes y = Rows.card(FULL);
        tally.refuses("6: 200 times", y, STATE, () -> y.scratch(0, 100));
        tally.refuses("6: 200 times, time 0", y, ARGUMENT, () -> y.scratch(0, 0));
        tally.refuses("6: 200 times, place 200", y, INDEX, () -> y.scratch(200, 0));
        y.join(0);
        tally.is("6: the 200th time", y.scratch(0, 399) + " " + y.time(0) + " " + y.time(1), "200 399 1");
    }

    private void change() {
        StripeSwipes x = Rows.row(7, 8, 9);
        tally.is("7: the time before", x.change(1, 999), 8);
        tally.is("7: the row", Rows.all(x), "7 999 9");
        x.undo();
        tally.is("7: undoable", Rows.all(x), "7 8 9");
        tally.is("7: the least time", x.change(2, 1) + ": " + Rows.all(x), "9: 7 8 1");
        for (int place : new int[] {-1, 3, 4, Integer.MAX_VALUE, Integer.MIN_VALUE}) {
            tally.refuses("7: place " + place, x, INDEX, () -> x.change(place, 0));
        }
        for (int time : new int[] {-1, 0, 1000, Integer.MAX_VALUE, Integer.MIN_VALUE}) {
            tally.refuses("7: time " + time, x, ARGUMENT, () -> x.change(1, time));
        }
        int saved = Rows.card("0").count(6);
        StripeSwipes y = Rows.card("0");
        y.change(0, 200);
        tally.is("7: saves also if it changes nothing", y.count(6), saved + 1);
    }

    private void set() {
        int[][] ranges = {{5, 30, 10}, {50, 95, 75}, {0, 100, 50}, {0, 40, 0}};
        for (int setting = 0; setting <= 3; setting++) {
            int number = setting;
            int[] range = ranges[setting];
            StripeSwipes x = Rows.card("5");
            String row = Rows.all(x);
            tally.is("8: the value before", x.set(setting, range[0]), range[2]);
            tally.is("8: the least value", x.set(setting, range[1]), range[0]);
            tally.is("8: the greatest value", x.setting(setting), range[1]);
            tally.is("8: the row stays", Rows.all(x), row);
            for (int value : new int[] {range[0] - 1, range[1] + 1, Integer.MAX_VALUE, Integer.MIN_VALUE}) {
                tally.refuses("8: " + setting + ", " + value, x, ARGUMENT, () -> x.set(number, value));
            }
            x.undo();
            tally.is("8: undoable", x.setting(setting) + " " + x.count(6), range[0] + " 2");
        }
        StripeSwipes x = new StripeSwipes();
        for (int setting : new int[] {-1, 4, Integer.MAX_VALUE, Integer.MIN_VALUE}) {
            tally.refuses("8: setting " + setting, x, INDEX, () -> x.set(setting, -5));
        }
    }
}
