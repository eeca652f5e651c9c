/** Sentences ahead of the promises: the card, the hand, settings, the input text, snapshots, exceptions. */
final class TermEdges extends Edges {
    private static final int[][] RANGES = {{5, 30, 10}, {50, 95, 75}, {0, 100, 50}, {0, 40, 0}};

    TermEdges(Tally tally, Sentences sentences) {
        super(tally, sentences);
    }

    void run() {
        sentences.section("What it is");
        sentences.of("An object is used for at most 512 calls after it has been made", this::lastCall);
        sentences.section("Terms");
        sentences.of("divisions are rounded down (all divided numbers are at least 0).", this::divisions);
        sentences.allWereQuoted("Terms");
        sentences.section("The card");
        sentences.of("A card has 1 to 20 letters", this::lettersOfCard);
        sentences.of("each a number from 0 to 15 but 11 (the start) and 15 (the end).", this::numbersOfLetters);
        sentences.of("as many bits 0 as setting 0 tells, the start, the letters, the end, the check, "
                + "and as many bits 0 as setting 0 tells.", this::bitsOfCard);
        sentences.of("4 of the number, the lowest first, and a parity bit, "
                + "so that an odd number of these 5 bits are 1.", this::groups);
        sentences.of("The check is such a number that, for each of the 4 bits of numbers, an even number of "
                + "the start, the letters, the end and the check have it as 1.", this::checks);
        sentences.section("The hand");
        sentences.of("the bit k takes the time 200, and the jerk of the hand times the rest of k by 5 more, "
                + "less twice the jerk (the jerk is setting 3).", this::jerk);
        sentences.of("A bit 0 is one time of so much; a bit 1 two times, the former one being the half of it, "
                + "the latter the rest.", this::halves);
        sentences.of("A swipe backwards has the same times in the other order.", this::backwards);
        sentences.of("A row has at most 200 times.", this::longestRow);
        sentences.allWereQuoted("The card");
        sentences.allWereQuoted("The hand");
        settings();
        inputText();
        snapshots();
        exceptions();
    }

    private void lastCall() {
        StripeSwipes x = new StripeSwipes();
        x.append('5');
        is("the first calls", x.write(), 52);
        for (int call = 3; call <= 510; call++) {
            x.change(call % 52, 1 + call);
        }
        is("call 511", x.swipe(), 52);
        is("call 512", x.isRight(), 1);
    }

    /** Each division of the document, with a rest that is not 0. */
    private void divisions() {
        StripeSwipes half = new StripeSwipes();
        half.set(0, 6);
        half.set(3, 1);
        Rows.type(half, "0").write();
        is("the half of 199", half.time(6), 99);
        is("the mean of 4 times with the sum 803", steady(200, 200, 200, 203).reads(false, 4), 200);
        is("the limit 2.85", Rows.read(limitOf(3, 95), false), "1 5 -1 0 3");
        StripeSwipes clock = Rows.row(200, 200, 200, 200, 299);
        clock.set(2, 1);
        is("the clock 200.99", clock.reads(false, 4), 200);
        is("the mean 5.75 of a share, its limit 3.75", Rows.row(3, 6, 7, 7).shortShare(), 0.0);
        is("the limit 2.25 of a share", Rows.row(2, 3, 3, 5).shortShare(), 0.0);
    }

    /** Four times of this clock, and one that is 1 less, with this ratio. */
    private static StripeSwipes limitOf(int clock, int ratio) {
        StripeSwipes x = steady(clock, clock, clock, clock, clock - 1);
        x.set(1, ratio);
        return x;
    }

    private void lettersOfCard() {
        refuses("no letter", Edges::empty, ARGUMENT, StripeSwipes::write);
        is("1 letter", Rows.card("0").count(4), 1);
        is("20 letters", Rows.card("0".repeat(20)).count(4), 20);
        refuses("21 letters", () -> typed("0".repeat(21)), ARGUMENT, StripeSwipes::write);
    }

    private void numbersOfLetters() {
        StringBuilder letters = new StringBuilder();
        for (int code = 33; code <= 126; code++) {
            StripeSwipes x = new StripeSwipes();
            x.append(code);
            if (!Tally.told(x::write).startsWith("throws.")) {
                letters.append((char) code).append(x.written(0)).append(' ');
            }
        }
        is("characters and their letters", letters.toString(),
                "00 11 22 33 44 55 66 77 88 99 =13 a10 c12 e14 ");
    }

    private void bitsOfCard() {
        for (int zeros : new int[] {5, 30, 10}) {
            StripeSwipes x = new StripeSwipes();
            x.set(0, zeros);
            Rows.type(x, "9").write();
            String quiet = "0".repeat(zeros);
            is(zeros + " bits 0", Rows.bitsRead(x, false), quiet + "11010" + "10011" + "11111" + "10110" + quiet);
        }
    }

    private void groups() {
        String signs = "0123456789ac=e";
        String[] groups = {"00001", "10000", "01000", "11001", "00100", "10101", "01101", "11100", "00010", "10011",
            "01011", "00111", "10110", "01110"};
        for (int i = 0; i < groups.length; i++) {
            String bits = Rows.bitsRead(Rows.card(signs.substring(i, i + 1)), false);
            is("the start ahead of " + signs.charAt(i), bits.substring(10, 15), "11010");
            is("the bits of " + signs.charAt(i), bits.substring(15, 20), groups[i]);
            is("the end behind " + signs.charAt(i), bits.substring(20, 25), "11111");
        }
    }

    private void checks() {
        String signs = "0123456789a.c=e";
        String seen = "";
        for (int i = 0; i < 15; i++) {
            for (int j = 0; j < 15; j++) {
                if (i != 11 && j != 11) {
                    StripeSwipes x = Rows.card("" + signs.charAt(i) + signs.charAt(j));
                    int check = x.count(5);
                    for (int k = 0; k < 4; k++) {
                        int ones = (11 >> k & 1) + (i >> k & 1) + (j >> k & 1) + (15 >> k & 1) + (check >> k & 1);
                        is("bit " + k + " of " + i + " and " + j, ones % 2, 0);
                    }
                    is("the check's bits of " + i + " and " + j, Rows.bitsRead(x, false).substring(30, 35),
                            Rows.group(check));
                    seen += seen.contains("[" + check + "]") ? "" : "[" + check + "]";
                }
            }
        }
        for (int check = 0; check <= 15; check++) {
            is("a card with the check " + check, seen.contains("[" + check + "]"), true);
        }
    }

    private void jerk() {
        String[] five = {"200 200 200 200 200", "198 199 200 201 202", "120 160 200 240 280"};
        int[] jerks = {0, 1, 40};
        for (int i = 0; i < jerks.length; i++) {
            String row = Rows.all(Rows.cardWithJerk("0", jerks[i]));
            is("jerk " + jerks[i] + ", ahead", row.startsWith(five[i] + " " + five[i] + " "), true);
            is("jerk " + jerks[i] + ", behind, k goes on by bits", row.endsWith(" " + five[i] + " " + five[i]), true);
        }
        StripeSwipes x = new StripeSwipes();
        x.set(0, 7);
        x.set(3, 10);
        Rows.type(x, "0").write();
        String row = Rows.all(x);
        is("7 bits 0 ahead", row.startsWith("180 190 200 210 220 180 190 100 100 105 105 220 90 90 190 "), true);
        is("7 bits 0 behind", row.endsWith(" 200 210 220 180 190 200 210"), true);
    }

    private void halves() {
        StripeSwipes x = new StripeSwipes();
        x.set(0, 6);
        x.set(3, 1);
        Rows.type(x, "0").write();
        is("an odd time is parted so", x.time(6) + " " + x.time(7), "99 100");
        is("an even one so", x.time(8) + " " + x.time(9) + " " + x.time(10), "100 100 201");
        is("an even one that is not 200", x.time(11) + " " + x.time(12) + " " + x.time(13), "101 101 198");
    }

    private void backwards() {
        StripeSwipes x = Rows.cardWithJerk("3a", 7);
        StripeSwipes turned = Rows.cardWithJerk("3a", 7);
        turned.turn();
        int many = x.count(0);
        for (int place = 0; place < many; place++) {
            is("time " + place, turned.time(place), x.time(many - 1 - place));
        }
        is("what is read backwards", Rows.read(x, true), Rows.read(turned, false));
        is("what is read forwards", Rows.read(x, false), Rows.read(turned, true));
        is("its bits", Rows.bitsRead(x, true), Rows.bitsRead(turned, false));
        is("its letters", Rows.lettersRead(x, false), Rows.lettersRead(turned, true));
        is("no times", Rows.read(empty(), true), Rows.read(empty(), false));
    }

    private void longestRow() {
        is("200 times are written", Rows.card(FULL).count(0), 200);
        refuses("202 times are not", () -> {
            StripeSwipes x = new StripeSwipes();
            x.set(0, 11);
            return Rows.type(x, FULL);
        }, STATE, StripeSwipes::write);
        StripeSwipes x = full();
        x.join(199 - 1);
        is("199 times", x.count(0), 199);
        is("a scratch makes 200", x.scratch(198, 100), 200);
        is("200 times stand", x.count(0), 200);
        refuses("a scratch does not make 201", Edges::full, STATE, y -> y.scratch(0, 100));
    }

    private void settings() {
        sentences.section("Settings");
        String[] said = {"0: bits 0 ahead and behind, 5 to 30, at first 10", "1: the ratio, 50 to 95, at first 75",
            "2: how much the clock follows, 0 to 100, at first 50", "3: the jerk, 0 to 40, at first 0."};
        for (int i = 0; i < said.length; i++) {
            int setting = i;
            sentences.of(said[i], () -> range(setting, RANGES[setting][0], RANGES[setting][1], RANGES[setting][2]));
        }
        sentences.allWereQuoted("Settings");
    }

    private void range(int setting, int least, int greatest, int first) {
        StripeSwipes x = new StripeSwipes();
        is("at first", x.setting(setting), first);
        x.set(setting, least);
        is("the least", x.setting(setting), least);
        x.set(setting, greatest);
        is("the greatest", x.setting(setting), greatest);
        refuses("too small", () -> rich("7"), ARGUMENT, y -> y.set(setting, least - 1));
        refuses("too large", () -> rich("7"), ARGUMENT, y -> y.set(setting, greatest + 1));
    }

    private void inputText() {
        sentences.section("Input text");
        sentences.of("The buffer has at most 40 characters.", () -> {
            is("the 40th", typed("0".repeat(39)).append('0'), 40);
            refuses("the 41st", () -> typed("0".repeat(40)), STATE, x -> x.append('0'));
            is("none of them is a letter more", typed("0".repeat(40)).firstError(), 20);
        });
        sentences.of("A card as a text is one or more letters: "
                + "\"0\" to \"9\" are 0 to 9, \"a\" 10, \"c\" 12, \"=\" 13, \"e\" 14.", () -> {
            refuses("no letter", Edges::empty, ARGUMENT, StripeSwipes::write);
            StripeSwipes x = Rows.card("0123456789ac=e");
            int[] letters = {0, 1, 2, 3, 4, 5, 6, 7, 8, 9, 10, 12, 13, 14, -1};
            for (int i = 0; i < letters.length; i++) {
                is("letter " + i, x.written(i), letters[i]);
            }
            for (String sign : "/ : < > ` b d f A C E @".split(" ")) {
                refuses("the sign " + sign, () -> typed(sign), ARGUMENT, StripeSwipes::write);
            }
        });
        sentences.of("At most 20.", () -> {
            is("20", typed("0".repeat(20)).write(), 164);
            refuses("21", () -> typed("0".repeat(21)), ARGUMENT, StripeSwipes::write);
        });
        sentences.of("a character is a syntax error if no card as a text begins "
                + "with the characters before it and this character.", () -> {
            is("the first one", typed("b0").firstError(), 0);
            is("the last one", typed("0b").firstError(), 1);
            is("the 20th letter is none", typed("0".repeat(20)).firstError(), 20);
            is("the 21st letter is one", typed("0".repeat(22)).firstError(), 20);
            is("a wrong sign behind 20 letters", typed("0".repeat(20) + "b").firstError(), 20);
            is("a wrong sign behind 21 letters", typed("0".repeat(21) + "b").firstError(), 20);
            is("a wrong 20th sign", typed("0".repeat(19) + "b0").firstError(), 19);
            is("a card too long for a row is a text of a card", typed("7".repeat(20)).firstError(), 20);
        });
        sentences.allWereQuoted("Input text", "Snapshots, undo", "There are two slots");
    }

    private void snapshots() {
        sentences.of("There are two slots", () -> {
            StripeSwipes x = new StripeSwipes();
            is("slot 0", x.keep(0), 0);
            Rows.type(x, "0").write();
            is("slot 1", x.keep(1), 50);
            is("they hold their own", x.goBack(0) + " " + x.goBack(1), "0 50");
            refuses("no slot 2", () -> rich(""), ARGUMENT, y -> y.keep(2));
            refuses("no slot -1", () -> rich(""), ARGUMENT, y -> y.keep(-1));
        });
        sentences.of("a snapshot is all but the buffer, the slots and the saved states.", this::whatSnapshotsHold);
        sentences.of("Each method that is marked \"undoable\" and does not throw an exception saves the state "
                + "from before it (also if it changes nothing)", this::savesWithoutChange);
        sentences.of("all but the buffer, the slots and the saved states. At most", this::whatStatesHold);
        sentences.of("At most 6 states are saved; the oldest one is dropped first.", this::sixStates);
        sentences.allWereQuoted("Input text", "Snapshots, undo");
    }

    private void whatSnapshotsHold() {
        StripeSwipes x = Rows.cardWithJerk("5", 3);
        x.set(0, 6);
        x.set(1, 60);
        x.set(2, 70);
        x.change(0, 33);
        String row = Rows.all(x);
        Rows.type(x, "8");
        x.keep(0);
        for (int i = 0; i < 4; i++) {
            x.set(i, RANGES[i][0]);
        }
        x.write();
        x.keep(1);
        Rows.type(x, "1b");
        is("times", x.goBack(0) + ": " + Rows.all(x), "52: " + row);
        is("the card", x.count(4) + " " + x.written(0), "1 5");
        is("settings", x.setting(0) + " " + x.setting(1) + " " + x.setting(2) + " " + x.setting(3), "6 60 70 3");
        is("not the buffer", x.firstError() + " " + x.clearBuffer(), "1 2");
        is("not the slots", x.goBack(1) + " " + x.written(0), "42 8");
        StripeSwipes y = Rows.card("5");
        y.keep(0);
        y.turn();
        y.turn();
        y.goBack(0);
        is("not the saved states", y.count(6), 4);
    }

    private void savesWithoutChange() {
        StripeSwipes x = new StripeSwipes();
        x.turn();
        is("turn, without times", x.count(6), 1);
        Rows.type(x, "0").write();
        Rows.type(x, "0").write();
        is("write, the same card", x.count(6), 3);
        x.swipe();
        is("swipe, a clean row", x.count(6), 4);
        x.set(3, 0);
        is("set, the value that is", x.count(6), 5);
        x.change(49, 200);
        is("change, the time that is", x.count(6), 6);
        StripeSwipes y = Rows.card("0");
        y.keep(0);
        y.goBack(0);
        is("goBack, the state that is", y.count(6), 2);
    }

    private void whatStatesHold() {
        StripeSwipes x = Rows.cardWithJerk("5", 3);
        x.set(0, 6);
        x.set(1, 60);
        x.set(2, 70);
        String row = Rows.all(x);
        String settings = "6 60 70 3";
        Rows.type(x, "8").write();
        x.keep(1);
        Rows.type(x, "1b");
        is("times", x.undo() + ": " + Rows.all(x), "5: " + row);
        is("the card", x.count(4) + " " + x.written(0), "1 5");
        is("settings", x.setting(0) + " " + x.setting(1) + " " + x.setting(2) + " " + x.setting(3), settings);
        is("not the buffer", x.firstError() + " " + x.clearBuffer(), "1 2");
        is("not the slots", x.goBack(1) + " " + x.written(0), "44 8");
    }

    private void sixStates() {
        StripeSwipes x = Rows.card("0");
        for (int time = 1; time <= 5; time++) {
            x.change(0, time);
        }
        is("6 states", x.count(6), 6);
        x.change(0, 6);
        is("6 states still", x.count(6), 6);
        x.change(0, 7);
        x.change(0, 8);
        StringBuilder times = new StringBuilder();
        while (x.count(6) > 0) {
            x.undo();
            times.append(x.time(0)).append(' ');
        }
        is("the latest 6, the latest first", times.toString(), "7 6 5 4 3 2 ");
        refuses("the oldest ones are dropped", () -> {
            StripeSwipes y = Rows.card("0");
            for (int i = 0; i < 7; i++) {
                y.turn();
            }
            for (int i = 0; i < 6; i++) {
                y.undo();
            }
            return y;
        }, STATE, StripeSwipes::undo);
    }

    private void exceptions() {
        sentences.section("Exceptions");
        sentences.of("A call that throws an exception changes nothing.", this::refusedCalls);
        sentences.of("If several exceptions apply, the one that is named first in the throws clause is thrown.", () -> {
            refuses("scratch: all three", Edges::full, INDEX, x -> x.scratch(200, 0));
            refuses("scratch: two", Edges::full, ARGUMENT, x -> x.scratch(0, 200));
            refuses("change: both", () -> rich(""), INDEX, x -> x.change(-1, 0));
            refuses("set: both", () -> rich(""), INDEX, x -> x.set(4, -1));
            refuses("append: both", () -> typed("0".repeat(40)), ARGUMENT, x -> x.append(127));
            refuses("goBack: both", Edges::empty, ARGUMENT, x -> x.goBack(2));
            refuses("write: a text too long both ways", () -> typed("7".repeat(21)), ARGUMENT, StripeSwipes::write);
        });
        sentences.of("`NONE = -1`: There is nothing to return.", () -> {
            is("NONE", StripeSwipes.NONE, -1);
            is("where nothing is", empty().time(0), StripeSwipes.NONE);
        });
        sentences.of("looks; nothing is changed.", this::looks);
        sentences.of("what would be; nothing is changed.", this::wouldBe);
        sentences.allWereQuoted("Exceptions", "Ahead of the calls `write`", "Ahead of the calls `append`");
    }

    /** With 6 saved states one that a refused call saved would push the oldest one out. */
    private void refusedCalls() {
        refuses("write", () -> rich("b"), ARGUMENT, StripeSwipes::write);
        refuses("write, too long", () -> rich("7".repeat(20)), STATE, StripeSwipes::write);
        refuses("swipe", () -> longCardWithFewZeros(11), STATE, StripeSwipes::swipe);
        refuses("join", () -> rich("8"), INDEX, x -> x.join(x.count(0) - 1));
        refuses("scratch, no such time", () -> rich("8"), INDEX, x -> x.scratch(-1, 1));
        refuses("scratch, out of range", () -> rich("8"), ARGUMENT, x -> x.scratch(0, 0));
        refuses("scratch, 200 times", () -> longCardWithFewZeros(10), STATE, x -> x.scratch(0, 1));
        refuses("change, no such time", () -> rich("8"), INDEX, x -> x.change(-1, 1));
        refuses("change, out of range", () -> rich("8"), ARGUMENT, x -> x.change(0, 0));
        refuses("set, no such setting", () -> rich("8"), INDEX, x -> x.set(-1, 9));
        refuses("set, out of range", () -> rich("8"), ARGUMENT, x -> x.set(3, 41));
        refuses("append, no such code", () -> rich("8"), ARGUMENT, x -> x.append(32));
        refuses("append, full", () -> rich("8".repeat(40)), STATE, x -> x.append(33));
        refuses("keep", () -> rich("8"), ARGUMENT, x -> x.keep(2));
        refuses("goBack, no such slot", () -> rich("8"), ARGUMENT, x -> x.goBack(-1));
        refuses("goBack, an empty slot", () -> longCardWithFewZeros(10), STATE, x -> x.goBack(1));
        refuses("undo", Edges::empty, STATE, StripeSwipes::undo);
        refuses("a look", () -> rich("8"), ARGUMENT, x -> x.bit(false, -1));
    }

    private static StripeSwipes longCardWithFewZeros(int zeros) {
        StripeSwipes x = new StripeSwipes();
        x.keep(0);
        Rows.type(x, FULL).write();
        for (int time = 1; time <= 5; time++) {
            x.change(0, time * 10);
        }
        x.set(0, zeros);
        return Rows.type(x, "9b");
    }

    private void looks() {
        StripeSwipes x = rich("4b");
        for (int i = 0; i <= 4; i++) {
            x.time(i * 60);
            x.written(i);
            x.reads(false, i);
            x.reads(true, i);
            x.bit(false, i * 50);
            x.bit(true, i * 50);
            x.letter(false, i);
            x.letter(true, i);
            x.count(i);
            x.count(i + 2);
            x.setting(i % 4);
        }
        is("behind looks", everything(x), everything(rich("4b")));
    }

    private void wouldBe() {
        StripeSwipes x = rich("4b");
        for (int what = 0; what <= 2; what++) {
            x.isRight();
            x.repair(what % 2);
            x.ratios(what);
            x.greatestJerk();
            x.shortShare();
            x.digest();
        }
        is("behind what would be", everything(x), everything(rich("4b")));
    }
}
