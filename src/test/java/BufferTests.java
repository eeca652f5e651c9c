/** Promises 9 to 14: the buffer, snapshots and undo. */
final class BufferTests {
    private static final Class<?> ARGUMENT = IllegalArgumentException.class;
    private static final Class<?> STATE = IllegalStateException.class;

    private final Tally tally;

    private BufferTests(Tally tally) {
        this.tally = tally;
    }

    static void run(Tally tally) {
        BufferTests tests = new BufferTests(tally);
        tests.append();
        tests.clearBuffer();
        tests.firstError();
        tests.keep();
        tests.goBack();
        tests.undo();
        tests.undoOfEachCall();
    }

    private void append() {
        StripeSwipes x = new StripeSwipes();
        tally.is("9: the length", x.append(33) + " " + x.append(126) + " " + x.append('0'), "1 2 3");
        for (int code : new int[] {32, 127, 0, -1, Integer.MAX_VALUE, Integer.MIN_VALUE}) {
            tally.refuses("9: code " + code, x, ARGUMENT, () -> x.append(code));
        }
        for (int i = 4; i <= 40; i++) {
            tally.is("9: length " + i, x.append('1'), i);
        }
        tally.refuses("9: 41 characters", x, STATE, () -> x.append('1'));
        tally.refuses("9: 41 characters, a wrong one", x, ARGUMENT, () -> x.append(32));
        tally.is("9: is not undoable", x.count(6), 0);
    }

    private void clearBuffer() {
        StripeSwipes x = Rows.type(new StripeSwipes(), "12?");
        tally.is("10: the length", x.clearBuffer(), 3);
        tally.is("10: it is empty then", x.clearBuffer(), 0);
        tally.is("10: a new one", x.append('5'), 1);
        tally.is("10: is not undoable", x.count(6), 0);
    }

    private void firstError() {
        String[] texts = {"", "0123456789ac=e", "b", "0b", "0bd", "12;", "1a2c3=4e5f6", "==", "9/9", ":", "A", "`", "f",
            "<", ">", "00000000000000000000", "000000000000000000000", "0000000000000000000x0", "!0", "~"};
        int[] places = {0, 14, 0, 1, 1, 2, 9, 2, 1, 0, 0, 0, 0, 0, 0, 20, 20, 19, 0, 0};
        for (int i = 0; i < texts.length; i++) {
            StripeSwipes x = Rows.type(new StripeSwipes(), texts[i]);
            tally.is("11: " + texts[i], x.firstError(), places[i]);
            tally.is("11: changes nothing", x.clearBuffer(), texts[i].length());
        }
        for (int code = 33; code <= 126; code++) {
            StripeSwipes x = new StripeSwipes();
            x.append(code);
            tally.is("11: code " + code, x.firstError(), "0123456789ac=e".indexOf(code) < 0 ? 0 : 1);
        }
    }

    private void keep() {
        StripeSwipes x = new StripeSwipes();
        tally.is("12: no times", x.keep(1), 0);
        Rows.type(x, "5").write();
        tally.is("12: times", x.keep(0), 52);
        tally.is("12: is not undoable", x.count(6), 1);
        for (int slot : new int[] {-1, 2, Integer.MAX_VALUE, Integer.MIN_VALUE}) {
            tally.refuses("12: slot " + slot, x, ARGUMENT, () -> x.keep(slot));
        }
        x.join(0);
        tally.is("12: in place of the one before", x.keep(0), 51);
        x.swipe();
        tally.is("12: the new one", x.goBack(0) + " " + x.time(0), "51 400");
        tally.is("12: the other slot", x.goBack(1) + " " + x.count(4), "0 0");
    }

    private void goBack() {
        StripeSwipes x = Rows.cardWithJerk("5", 9);
        String row = Rows.all(x);
        x.keep(1);
        x.set(3, 0);
        x.set(1, 60);
        Rows.type(x, "12").write();
        Rows.type(x, "9a");
        tally.is("13: times", x.goBack(1), 52);
        tally.is("13: the row", Rows.all(x), row);
        tally.is("13: the card", x.count(4) + " " + x.written(0) + " " + x.count(5), "1 5 1");
        tally.is("13: the settings", x.setting(3) + " " + x.setting(1), "9 75");
        tally.is("13: the buffer stays", x.firstError(), 2);
        tally.is("13: saves the state", x.count(6), 6);
        x.change(0, 1);
        tally.is("13: the snapshot stays", x.goBack(1) + " " + x.time(0), "52 182");
        x.undo();
        tally.is("13: undoable", x.time(0), 1);
        x.undo();
        x.undo();
        tally.is("13: undone twice", x.count(4) + " " + x.setting(3) + " " + x.setting(1), "2 0 60");
        tally.refuses("13: an empty slot", x, STATE, () -> x.goBack(0));
        for (int slot : new int[] {-1, 2, Integer.MAX_VALUE, Integer.MIN_VALUE}) {
            tally.refuses("13: slot " + slot, x, ARGUMENT, () -> x.goBack(slot));
        }
    }

    private void undo() {
        StripeSwipes x = new StripeSwipes();
        tally.refuses("14: none is saved", x, STATE, x::undo);
        Rows.type(x, "5").write();
        for (int i = 0; i < 7; i++) {
            x.change(0, 10 + i);
        }
        tally.is("14: at most 6", x.count(6), 6);
        for (int left = 5; left >= 0; left--) {
            tally.is("14: left", x.undo(), left);
            tally.is("14: the state", x.time(0), 10 + left);
        }
        tally.refuses("14: the oldest ones are dropped", x, STATE, x::undo);
        x.change(0, 30);
        x.change(0, 31);
        tally.is("14: saved anew", x.undo() + " " + x.time(0) + " " + x.undo() + " " + x.time(0), "1 30 0 10");
        x.keep(0);
        x.turn();
        x.undo();
        tally.is("14: the slots stay", x.goBack(0), 52);
        x.append('7');
        x.undo();
        tally.is("14: the buffer stays", x.clearBuffer(), 1);
    }

    /** Behind each undoable call undo() leads back to the very state, which the digest tells. */
    private void undoOfEachCall() {
        StripeSwipes x = Rows.cardWithJerk("12=9", 5);
        x.keep(0);
        x.undo();
        x.undo();
        Rows.type(x, "ac").write();
        x.undo();
        x.goBack(0);
        x.undo();
        Rows.type(x, "37").write();
        String[] names = {"swipe", "turn", "join", "scratch", "change", "set", "goBack", "write"};
        Tally.Call[] calls = {x::swipe, x::turn, () -> x.join(3), () -> x.scratch(4, 50), () -> x.change(5, 77),
            () -> x.set(2, 9), () -> x.goBack(0), x::write};
        for (int i = 0; i < calls.length; i++) {
            long before = x.digest();
            int saved = x.count(6);
            if (i == 7) {
                Rows.type(x, "0");
            }
            calls[i].answer();
            tally.is("14: " + names[i] + " saves", x.count(6), saved + 1);
            tally.is("14: " + names[i] + " is undone", x.undo() + " " + x.digest(), saved + " " + before);
        }
    }
}
