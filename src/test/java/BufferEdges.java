/** The sentences of promises 9 to 14: the buffer, snapshots and undo. */
final class BufferEdges extends Edges {
    private static final String FORTY = "0".repeat(40);

    BufferEdges(Tally tally, Sentences sentences) {
        super(tally, sentences);
    }

    void run() {
        append();
        clearBuffer();
        firstError();
        keep();
        goBack();
        undo();
        for (int promise = 9; promise <= 14; promise++) {
            sentences.allWereQuoted("Promise " + promise);
        }
    }

    private void append() {
        sentences.section("Promise 9");
        sentences.of("Appends a character to the buffer.", () -> {
            StripeSwipes x = new StripeSwipes();
            x.append('1');
            x.append('2');
            is("at its end", x.write() + " " + x.written(0) + " " + x.written(1), "58 1 2");
            is("is not undoable", rich("1").count(6) + " " + typed("1").count(6), "6 0");
        });
        sentences.of("- `code`: the character code, 33 to 126", () -> {
            is("33", empty().append(33), 1);
            is("126", empty().append(126), 1);
            long hash = empty().digest() * 31 + 126;
            StripeSwipes x = new StripeSwipes();
            x.append(126);
            is("it is what the buffer holds", x.digest(), hash + 31);
        });
        sentences.of("Returns the new length of the buffer.", () -> {
            StripeSwipes x = new StripeSwipes();
            for (int length = 1; length <= 40; length++) {
                is("the length", x.append('!'), length);
            }
            x.clearBuffer();
            is("cleared before", x.append('0'), 1);
        });
        sentences.of("Throws `IllegalArgumentException` if code is not 33 to 126", () -> {
            for (int code : new int[] {32, 127, 0, -1, 33 + 256, 65536 + 48, Integer.MIN_VALUE, Integer.MAX_VALUE}) {
                refuses("the code " + code, () -> rich("1"), ARGUMENT, x -> x.append(code));
            }
        });
        sentences.of("Throws `IllegalStateException` if the buffer has 40 characters", () -> {
            refuses("40", () -> rich(FORTY), STATE, x -> x.append('0'));
            is("39", typed(FORTY.substring(1)).append('0'), 40);
        });
    }

    private void clearBuffer() {
        sentences.section("Promise 10");
        sentences.of("Clears the buffer.", () -> {
            StripeSwipes x = rich(FORTY);
            x.clearBuffer();
            is("nothing else", everything(x), everything(rich("")));
            refuses("no text then", () -> {
                StripeSwipes y = rich("12");
                y.clearBuffer();
                return y;
            }, ARGUMENT, StripeSwipes::write);
        });
        sentences.of("Returns the length that it had.", () -> {
            is("0", empty().clearBuffer(), 0);
            is("1", typed("b").clearBuffer(), 1);
            is("40", typed(FORTY).clearBuffer(), 40);
            StripeSwipes x = typed(FORTY);
            x.clearBuffer();
            is("cleared twice", x.clearBuffer(), 0);
        });
    }

    private void firstError() {
        sentences.section("Promise 11");
        sentences.of("Finds the first syntax error of the buffer.", () -> {
            is("of two", typed("1bb").firstError(), 1);
            StripeSwipes x = rich("1b");
            x.firstError();
            is("changes nothing", everything(x), everything(rich("1b")));
        });
        sentences.of("Returns the index of the first character that is a syntax error; "
                + "the length of the buffer if there is none.", () -> {
            is("an empty buffer", empty().firstError(), 0);
            is("the first of 1", typed("b").firstError(), 0);
            is("none of 1", typed("0").firstError(), 1);
            is("the last of 20", typed("0".repeat(19) + "b").firstError(), 19);
            is("none of 20", typed("0".repeat(20)).firstError(), 20);
            is("the last of 21", typed("0".repeat(21)).firstError(), 20);
            is("the 21st of 40", typed(FORTY).firstError(), 20);
            is("the first of 40", typed("b" + FORTY.substring(1)).firstError(), 0);
            for (int code = 33; code <= 126; code++) {
                boolean letter = code >= '0' && code <= '9' || code == 'a' || code == 'c' || code == '=' || code == 'e';
                is("the code " + code, typed("0" + (char) code).firstError(), letter ? 2 : 1);
            }
        });
    }

    private void keep() {
        sentences.section("Promise 12");
        sentences.of("Takes a snapshot, in place of the one in the slot.", () -> {
            StripeSwipes x = Rows.row(1, 2, 3);
            x.keep(0);
            x.join(0);
            x.keep(0);
            x.join(0);
            is("the later one", x.goBack(0) + ": " + Rows.all(x), "2: 3 3");
            x.change(0, 9);
            is("what is changed behind it is not in it", x.goBack(0) + ": " + Rows.all(x), "2: 3 3");
            StripeSwipes y = rich("");
            y.keep(1);
            is("is not undoable", y.count(6) + " " + y.undo() + " " + y.count(6), "6 5 5");
        });
        sentences.of("- `slot`: 0 or 1", () -> {
            StripeSwipes x = Rows.row(1, 2, 3);
            x.keep(1);
            refuses("slot 0 stays empty", () -> {
                StripeSwipes y = Rows.row(1);
                y.keep(1);
                return y;
            }, STATE, y -> y.goBack(0));
            x.join(0);
            x.keep(0);
            is("slot 1 has its own", x.goBack(1) + " " + x.goBack(0), "3 2");
        });
        sentences.of("Returns how many times the row has.", () -> {
            is("none", empty().keep(0), 0);
            is("1", Rows.row(5).keep(1), 1);
            is("200", full().keep(1), 200);
        });
        sentences.of("Throws `IllegalArgumentException` if slot is out of range", () -> {
            for (int slot : new int[] {-1, 2, Integer.MIN_VALUE, Integer.MAX_VALUE}) {
                refuses("the slot " + slot, () -> rich("1"), ARGUMENT, x -> x.keep(slot));
            }
        });
    }

    private void goBack() {
        sentences.section("Promise 13");
        sentences.of("Goes back to a snapshot, which stays. Undoable.", () -> {
            StripeSwipes x = rich("1");
            String row = Rows.all(x);
            x.goBack(0);
            is("the card of then", x.count(4) + " " + x.written(0), "2 1");
            is("undone", x.undo() + ": " + x.written(0) + ": " + Rows.all(x), "5: 5: " + row);
            for (int i = 0; i < 3; i++) {
                is("it stays", x.goBack(0) + " " + x.written(1), "58 2");
                x.set(0, 5);
                x.change(0, 1);
                x.swipe();
                is("what is done behind it", x.count(0), 48);
            }
        });
        sentences.of("- `slot`: 0 or 1", () -> {
            StripeSwipes x = rich("");
            is("1 is 5=", x.goBack(1) + " " + x.written(0), "62 5");
            is("0 is 12", x.goBack(0) + " " + x.written(0), "58 1");
        });
        sentences.of("Returns how many times the row has then.", () -> {
            StripeSwipes x = new StripeSwipes();
            x.keep(0);
            Rows.type(x, FULL).write();
            x.keep(1);
            is("none, then 200", x.goBack(0) + " " + x.goBack(1) + " " + x.count(0), "0 200 200");
        });
        sentences.of("Throws `IllegalArgumentException` if slot is out of range", () -> {
            for (int slot : new int[] {-1, 2, Integer.MIN_VALUE, Integer.MAX_VALUE}) {
                refuses("the slot " + slot, () -> rich("1"), ARGUMENT, x -> x.goBack(slot));
                refuses("the slot " + slot + ", both empty", Edges::empty, ARGUMENT, x -> x.goBack(slot));
            }
        });
        sentences.of("Throws `IllegalStateException` if there is no snapshot in it", () -> {
            refuses("slot 0", Edges::empty, STATE, x -> x.goBack(0));
            refuses("slot 1", Edges::full, STATE, x -> x.goBack(1));
            StripeSwipes x = new StripeSwipes();
            x.keep(0);
            is("a snapshot without times is one", x.goBack(0), 0);
            refuses("the other slot", () -> {
                StripeSwipes y = new StripeSwipes();
                y.keep(0);
                return y;
            }, STATE, y -> y.goBack(1));
        });
    }

    private void undo() {
        sentences.section("Promise 14");
        sentences.of("Restores the latest saved state, and drops it.", () -> {
            StripeSwipes x = Rows.row(1, 2, 3);
            x.change(0, 5);
            x.change(0, 6);
            x.undo();
            is("the latest", x.time(0), 5);
            x.undo();
            is("the one before it", x.time(0), 1);
            x.change(0, 7);
            x.undo();
            is("saved anew", x.time(0), 1);
            StripeSwipes y = Rows.card("0");
            y.undo();
            is("to a new object", y.count(0) + " " + y.count(4) + " " + y.count(6), "0 0 0");
        });
        sentences.of("Returns how many saved states are left.", () -> {
            StripeSwipes x = rich("1");
            StringBuilder left = new StringBuilder();
            for (int i = 0; i < 6; i++) {
                left.append(x.undo()).append(' ');
            }
            is("of six", left.toString(), "5 4 3 2 1 0 ");
        });
        sentences.of("Throws `IllegalStateException` if there is none", () -> {
            refuses("a new object", Edges::empty, STATE, StripeSwipes::undo);
            refuses("calls that are not undoable", () -> {
                StripeSwipes x = typed("1b");
                x.keep(0);
                x.firstError();
                x.isRight();
                x.clearBuffer();
                return x;
            }, STATE, StripeSwipes::undo);
            refuses("a call that was refused", () -> {
                StripeSwipes x = new StripeSwipes();
                Tally.told(x::write);
                Tally.told(() -> x.set(3, 41));
                return x;
            }, STATE, StripeSwipes::undo);
            refuses("all are undone", () -> {
                StripeSwipes x = rich("1");
                for (int i = 0; i < 6; i++) {
                    x.undo();
                }
                return x;
            }, STATE, StripeSwipes::undo);
        });
    }
}
