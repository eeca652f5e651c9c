/** The sentences of promises 1 to 8: a new object, cards and times. */
final class CardEdges extends Edges {
    CardEdges(Tally tally, Sentences sentences) {
        super(tally, sentences);
    }

    void run() {
        newObject();
        write();
        swipe();
        turn();
        join();
        scratch();
        change();
        set();
        for (int promise = 1; promise <= 8; promise++) {
            sentences.allWereQuoted("Promise " + promise);
        }
    }

    private void newObject() {
        sentences.section("Promise 1");
        sentences.of("Creates a reader without a card (no times), with empty slots and an empty buffer.", () -> {
            is("letters, check", empty().count(4) + " " + empty().count(5), "0 -1");
            is("times, their sum", empty().count(0) + " " + empty().count(1), "0 0");
            is("saved states", empty().count(6), 0);
            refuses("no card", Edges::empty, STATE, StripeSwipes::swipe);
            refuses("no times", Edges::empty, INDEX, x -> x.change(0, 1));
            refuses("slot 0 is empty", Edges::empty, STATE, x -> x.goBack(0));
            refuses("slot 1 is empty", Edges::empty, STATE, x -> x.goBack(1));
            refuses("no text", Edges::empty, ARGUMENT, StripeSwipes::write);
            refuses("no saved state", Edges::empty, STATE, StripeSwipes::undo);
            is("the buffer's length", empty().clearBuffer(), 0);
        });
    }

    private static StripeSwipes withZeros(int zeros, String text) {
        StripeSwipes x = new StripeSwipes();
        x.set(0, zeros);
        return Rows.type(x, text);
    }

    private void write() {
        sentences.section("Promise 2");
        sentences.of("Writes the card in the buffer, and swipes it: the row of times is that of its swipe then; "
                + "clears the buffer. Undoable.", () -> {
            StripeSwipes x = rich("0");
            x.set(0, 5);
            x.set(3, 0);
            String row = Rows.all(x);
            is("times", x.write(), 40);
            is("the row is that of a new object", Rows.all(x), Rows.all(writtenWithZeros(5, "0")));
            is("the card is the new one", x.count(4) + " " + x.written(0) + " " + x.written(1), "1 0 -1");
            is("the buffer is empty", x.clearBuffer(), 0);
            is("undone", x.undo() + ": " + x.count(4) + " " + x.written(0) + ": " + Rows.all(x), "5: 2 5: " + row);
            is("the buffer stays empty", x.clearBuffer(), 0);
        });
        sentences.of("Returns how many times the row has.", () -> {
            is("few", writtenWithZeros(5, "0").count(0), 40);
            is("the return of few", withZeros(5, "0").write(), 40);
            is("30 bits 0", withZeros(30, "0").write(), 90);
            is("200", typed(FULL).write(), 200);
        });
        sentences.of("Throws `IllegalArgumentException` if the buffer does not tell a card as a text", () -> {
            String twenty = "0".repeat(20);
            String[] texts = {"", "b", "1b", "b1", "!", "~", twenty + "0", twenty + "b", twenty + twenty};
            for (String text : texts) {
                refuses("'" + text + "'", () -> rich(text), ARGUMENT, StripeSwipes::write);
                refuses("'" + text + "', on a new object", () -> typed(text), ARGUMENT, StripeSwipes::write);
            }
            is("1 letter", typed("0").write(), 50);
            is("20 letters", typed(twenty).write(), 164);
        });
        sentences.of("Throws `IllegalStateException` if the row would have more than 200 times", () -> {
            refuses("202", () -> withZeros(11, FULL), STATE, StripeSwipes::write);
            refuses("far more", () -> withZeros(30, "e".repeat(20)), STATE, StripeSwipes::write);
            refuses("with a row that stands", () -> rich("7".repeat(20)), STATE, StripeSwipes::write);
            is("200", withZeros(10, FULL).write(), 200);
        });
    }

    private static StripeSwipes writtenWithZeros(int zeros, String text) {
        StripeSwipes x = withZeros(zeros, text);
        x.write();
        return x;
    }

    private void swipe() {
        sentences.section("Promise 3");
        sentences.of("Swipes the card that was written last once more, by the settings of now: the row of times is "
                + "that of its swipe then (dirt and scratches are gone). Undoable.", () -> {
            StripeSwipes x = Rows.card("5");
            x.join(0);
            x.scratch(9, 1);
            x.change(20, 999);
            x.turn();
            String dirty = Rows.all(x);
            x.set(0, 5);
            x.set(3, 40);
            is("times", x.swipe(), 42);
            StripeSwipes y = new StripeSwipes();
            y.set(0, 5);
            y.set(3, 40);
            Rows.type(y, "5").write();
            is("dirt and scratches are gone", Rows.all(x), Rows.all(y));
            is("undone", x.undo() + ": " + Rows.all(x), "5: " + dirty);
            StripeSwipes z = Rows.type(Rows.card("5"), "12");
            is("what was written last, not what is in the buffer", z.swipe() + " " + z.clearBuffer(), "52 2");
        });
        sentences.of("Returns how many times the row has.", () -> {
            StripeSwipes x = writtenWithZeros(5, "0");
            is("5 bits 0", x.swipe(), 40);
            x.set(0, 30);
            is("30 bits 0", x.swipe(), 90);
            is("200", full().swipe(), 200);
        });
        sentences.of("Throws `IllegalStateException` if no card was written, "
                + "or the row would have more than 200 times", () -> {
            refuses("no card", Edges::empty, STATE, StripeSwipes::swipe);
            refuses("a card in the buffer alone", () -> typed("0"), STATE, StripeSwipes::swipe);
            refuses("a card that was undone", () -> {
                StripeSwipes x = Rows.card("0");
                x.undo();
                return x;
            }, STATE, StripeSwipes::swipe);
            refuses("back to where no card was", () -> {
                StripeSwipes x = new StripeSwipes();
                x.keep(0);
                Rows.type(x, "0").write();
                x.goBack(0);
                return x;
            }, STATE, StripeSwipes::swipe);
            refuses("202 times", () -> {
                StripeSwipes x = full();
                x.set(0, 11);
                return x;
            }, STATE, StripeSwipes::swipe);
            is("200 times", full().swipe(), 200);
        });
    }

    private void turn() {
        sentences.section("Promise 4");
        sentences.of("Turns the row of times around. Undoable.", () -> {
            StripeSwipes x = Rows.row(1, 2, 3, 4);
            x.turn();
            is("an even number", Rows.all(x), "4 3 2 1");
            x.undo();
            is("undone", Rows.all(x), "1 2 3 4");
            StripeSwipes y = Rows.row(1, 2, 3);
            y.turn();
            is("an odd number", Rows.all(y), "3 2 1");
            StripeSwipes z = full();
            z.change(0, 5);
            z.turn();
            is("200 times", z.time(199) + " " + z.time(0) + " " + z.count(0), "5 200 200");
        });
        sentences.of("Returns the first time then, 0 without times.", () -> {
            is("without times", empty().turn(), 0);
            is("1 time", Rows.row(7).turn(), 7);
            is("2 times", Rows.row(7, 8).turn(), 8);
            StripeSwipes x = new StripeSwipes();
            x.turn();
            is("saved without times, too", x.count(6), 1);
        });
    }

    private void join() {
        sentences.section("Promise 5");
        sentences.of("Lets dirt join a time with the next one: they become one time, their sum. Undoable.", () -> {
            StripeSwipes x = Rows.row(1, 2, 4, 8);
            x.join(1);
            is("the row", Rows.all(x), "1 6 8");
            x.undo();
            is("undone", Rows.all(x), "1 2 4 8");
            StripeSwipes y = full();
            y.join(198);
            is("200 times", y.count(0) + " " + y.time(198) + " " + y.time(199), "199 400 -1");
        });
        sentences.of("- `place`: the place of the former one, from 0", () -> {
            StripeSwipes x = Rows.row(1, 2, 4, 8);
            x.join(0);
            is("the first", Rows.all(x), "3 4 8");
            x.join(1);
            is("the last but one", Rows.all(x), "3 12");
            x.join(0);
            is("the only one", Rows.all(x), "15");
        });
        sentences.of("Returns the time.", () -> {
            is("the sum", Rows.row(1, 2).join(0), 3);
            is("a sum above 999", Rows.row(999, 999).join(0), 1998);
        });
        sentences.of("Throws `IndexOutOfBoundsException` if there are not both", () -> {
            refuses("no times", Edges::empty, INDEX, x -> x.join(0));
            refuses("1 time", () -> Rows.row(7), INDEX, x -> x.join(0));
            refuses("the last of 2", () -> Rows.row(7, 8), INDEX, x -> x.join(1));
            refuses("behind the last", () -> Rows.row(7, 8), INDEX, x -> x.join(2));
            refuses("the last of 200", Edges::full, INDEX, x -> x.join(199));
            refuses("behind the last of 200", Edges::full, INDEX, x -> x.join(200));
            refuses("ahead of the first", () -> Rows.row(7, 8), INDEX, x -> x.join(-1));
            refuses("a place whose next one wraps around", () -> rich(""), INDEX, x -> x.join(Integer.MAX_VALUE));
            refuses("the least place", () -> rich(""), INDEX, x -> x.join(Integer.MIN_VALUE));
        });
    }

    private void scratch() {
        sentences.section("Promise 6");
        sentences.of("Lets a scratch part a time into two. Undoable.", () -> {
            StripeSwipes x = Rows.row(10, 20, 30);
            x.scratch(1, 7);
            is("the row", Rows.all(x), "10 7 13 30");
            x.undo();
            is("undone", Rows.all(x), "10 20 30");
        });
        sentences.of("- `place`: its place, from 0", () -> {
            StripeSwipes x = Rows.row(10, 20, 30);
            x.scratch(0, 4);
            is("the first", Rows.all(x), "4 6 20 30");
            x.scratch(3, 4);
            is("the last", Rows.all(x), "4 6 20 4 26");
        });
        sentences.of("- `time`: 1 or more, less than it: the former one then, the latter one being the rest", () -> {
            StripeSwipes x = Rows.row(10, 20, 30);
            x.scratch(1, 1);
            is("1", Rows.all(x), "10 1 19 30");
            x.undo();
            x.scratch(1, 19);
            is("1 less than it", Rows.all(x), "10 19 1 30");
            StripeSwipes y = Rows.row(2);
            y.scratch(0, 1);
            is("a time of 2", Rows.all(y), "1 1");
            StripeSwipes z = Rows.row(999, 999);
            z.join(0);
            z.scratch(0, 1997);
            is("a time above 999", Rows.all(z), "1997 1");
        });
        sentences.of("Returns how many times the row has then.", () -> {
            is("2", Rows.row(7).scratch(0, 3), 2);
            StripeSwipes x = full();
            x.join(0);
            is("200", x.scratch(0, 3), 200);
        });
        scratchRefuses();
    }

    private void scratchRefuses() {
        sentences.of("Throws `IndexOutOfBoundsException` if there is no such time", () -> {
            refuses("no times", Edges::empty, INDEX, x -> x.scratch(0, 1));
            refuses("behind the last", () -> Rows.row(7, 8), INDEX, x -> x.scratch(2, 1));
            refuses("behind the last of 200", Edges::full, INDEX, x -> x.scratch(200, 1));
            for (int place : new int[] {-1, Integer.MIN_VALUE, Integer.MAX_VALUE}) {
                refuses("the place " + place, () -> rich(""), INDEX, x -> x.scratch(place, 1));
            }
        });
        sentences.of("Throws `IllegalArgumentException` if time is out of range", () -> {
            for (int time : new int[] {0, 8, 9, -1, Integer.MIN_VALUE, Integer.MAX_VALUE}) {
                refuses("the time " + time, () -> Rows.row(7, 8, 9), ARGUMENT, x -> x.scratch(1, time));
            }
            refuses("a time of 1", () -> Rows.row(1), ARGUMENT, x -> x.scratch(0, 1));
            refuses("a time of 1, by 0", () -> Rows.row(1), ARGUMENT, x -> x.scratch(0, 0));
        });
        sentences.of("Throws `IllegalStateException` if the row has 200 times", () -> {
            refuses("200, the first", Edges::full, STATE, x -> x.scratch(0, 1));
            refuses("200, the last", Edges::full, STATE, x -> x.scratch(199, 199));
            StripeSwipes x = full();
            x.join(0);
            is("199", x.scratch(198, 199), 200);
        });
    }

    private void change() {
        sentences.section("Promise 7");
        sentences.of("Makes a time longer or shorter. Undoable.", () -> {
            StripeSwipes x = Rows.row(7, 8, 9);
            x.change(1, 20);
            is("longer", Rows.all(x), "7 20 9");
            x.change(1, 2);
            is("shorter", Rows.all(x), "7 2 9");
            x.undo();
            is("undone", Rows.all(x), "7 20 9");
        });
        sentences.of("- `place`: its place, from 0", () -> {
            StripeSwipes x = Rows.row(7, 8, 9);
            x.change(0, 1);
            x.change(2, 3);
            is("the first and the last", Rows.all(x), "1 8 3");
            StripeSwipes y = full();
            is("the last of 200", y.change(199, 3) + " " + y.time(199), "200 3");
        });
        sentences.of("- `time`: 1 to 999, the time then", () -> {
            StripeSwipes x = Rows.row(7, 8, 9);
            x.change(1, 1);
            is("1", x.time(1), 1);
            x.change(1, 999);
            is("999", x.time(1), 999);
        });
        sentences.of("Returns the time before.", () -> {
            is("the time before", Rows.row(7, 8, 9).change(1, 20), 8);
            is("the same time", Rows.row(7, 8, 9).change(1, 8), 8);
            StripeSwipes x = Rows.row(999, 999);
            x.join(0);
            is("a time before above 999", x.change(0, 5), 1998);
        });
        sentences.of("Throws `IndexOutOfBoundsException` if there is no such time", () -> {
            refuses("no times", Edges::empty, INDEX, x -> x.change(0, 1));
            refuses("behind the last", () -> Rows.row(7, 8), INDEX, x -> x.change(2, 1));
            refuses("behind the last of 200", Edges::full, INDEX, x -> x.change(200, 1));
            refuses("a place that a join took", () -> {
                StripeSwipes x = Rows.row(7, 8);
                x.join(0);
                return x;
            }, INDEX, x -> x.change(1, 1));
            for (int place : new int[] {-1, Integer.MIN_VALUE, Integer.MAX_VALUE}) {
                refuses("the place " + place, () -> rich(""), INDEX, x -> x.change(place, 1));
            }
        });
        sentences.of("Throws `IllegalArgumentException` if time is out of range", () -> {
            for (int time : new int[] {0, 1000, -1, Integer.MIN_VALUE, Integer.MAX_VALUE}) {
                refuses("the time " + time, () -> rich(""), ARGUMENT, x -> x.change(0, time));
            }
        });
    }

    private void set() {
        sentences.section("Promise 8");
        sentences.of("Changes a setting (the row of times stays). Undoable.", () -> {
            StripeSwipes x = Rows.card("5");
            String row = Rows.all(x);
            int[] values = {30, 95, 100, 40};
            for (int setting = 0; setting <= 3; setting++) {
                x.set(setting, values[setting]);
                is("the row stays", Rows.all(x), row);
            }
            is("undone", x.undo() + " " + x.setting(3) + " " + x.setting(2), "4 0 100");
        });
        sentences.of("- `setting`: 0 to 3", () -> {
            StripeSwipes x = new StripeSwipes();
            x.set(0, 11);
            x.set(1, 51);
            x.set(2, 52);
            x.set(3, 33);
            is("each for itself", x.setting(0) + " " + x.setting(1) + " " + x.setting(2) + " " + x.setting(3),
                    "11 51 52 33");
        });
        sentences.of("- `value`: the new value", () -> {
            StripeSwipes x = new StripeSwipes();
            x.set(2, 0);
            is("0", x.setting(2), 0);
            x.set(2, 100);
            is("100", x.setting(2), 100);
        });
        sentences.of("Returns the previous value.", () -> {
            StripeSwipes x = new StripeSwipes();
            is("at first, then", x.set(2, 0) + " " + x.set(2, 100) + " " + x.set(2, 100), "50 0 100");
        });
        sentences.of("Throws `IndexOutOfBoundsException` if there is no such setting", () -> {
            for (int setting : new int[] {-1, 4, Integer.MIN_VALUE, Integer.MAX_VALUE}) {
                refuses("the setting " + setting, () -> rich(""), INDEX, x -> x.set(setting, 30));
            }
        });
        sentences.of("Throws `IllegalArgumentException` if value is out of range", () -> {
            int[][] values = {{4, 31}, {49, 96}, {-1, 101}, {-1, 41}};
            for (int i = 0; i < 4; i++) {
                int setting = i;
                for (int value : new int[] {values[i][0], values[i][1], Integer.MIN_VALUE, Integer.MAX_VALUE}) {
                    refuses(setting + ": " + value, () -> rich(""), ARGUMENT, x -> x.set(setting, value));
                }
            }
        });
    }
}
