import java.util.Random;

/** Random runs of up to 512 calls, each answer compared with the model's. */
final class ModelTests {
    private static final String GOOD = "0123456789ac=e";
    private static final int[] EDGES = {-1, 0, 1, 2, 3, 4, 5, 6, 7, 199, 200, 201,
        Integer.MAX_VALUE, Integer.MIN_VALUE};

    private final Random random;
    private final StripeSwipes x = new StripeSwipes();
    private final Model model = new Model();
    private final StringBuilder calls = new StringBuilder();
    private final int[] seen;
    private int made = 0;
    private String wrong = "";

    private ModelTests(long seed, int[] seen) {
        this.random = new Random(seed);
        this.seen = seen;
    }

    static void run(Tally tally) {
        int[] seen = new int[16];
        for (int seed = 0; seed < 240; seed++) {
            ModelTests one = new ModelTests(seed, seen);
            one.play(seed % 4);
            tally.is("random run " + seed, one.wrong, "");
        }
        for (int reason = 0; reason <= 6; reason++) {
            tally.is("the random runs meet the reason " + reason, seen[reason] > 20, true);
        }
        tally.is("the random runs meet repairs", seen[7] > 20, true);
        tally.is("the random runs meet cards that are right backwards alone", seen[8] > 20, true);
        tally.is("the random runs meet ratios of which some do", seen[9] > 20, true);
    }

    private void play(int kind) {
        if (kind == 1) {
            layCard();
        } else if (kind == 2) {
            layNoise();
        } else if (kind == 3) {
            set(3, random.nextInt(41));
            set(2, random.nextInt(101));
        }
        while (made < 500 && wrong.isEmpty()) {
            step();
        }
    }

    private int below(int bound) {
        return random.nextInt(bound);
    }

    private int place() {
        return below(12) == 0 ? EDGES[below(EDGES.length)] : below(Math.max(1, model.count(0)));
    }

    private void step() {
        int kind = below(100);
        if (kind < 10) {
            typeCard();
        } else if (kind < 50) {
            act(kind);
        } else if (kind < 60) {
            bufferCall();
        } else {
            look(kind);
        }
        if (below(4) == 0) {
            lookAtAll();
        }
    }

    private void note() {
        seen[model.reads(false, 0)]++;
        seen[7] += model.repair(0) >= 0 ? 1 : 0;
        seen[8] += model.isRight() == 2 ? 1 : 0;
        seen[9] += model.ratios(2) > 0 && model.ratios(2) < 46 ? 1 : 0;
    }

    private void typeCard() {
        both("clearBuffer()", x::clearBuffer, model::clearBuffer);
        int letters = below(6) == 0 ? 18 + below(4) : 1 + below(6);
        for (int i = 0; i < letters; i++) {
            append(GOOD.charAt(below(GOOD.length())));
        }
        both("write()", x::write, model::write);
    }

    private void act(int kind) {
        int place = place();
        if (kind < 14) {
            both("swipe()", x::swipe, model::swipe);
        } else if (kind < 18) {
            both("turn()", x::turn, model::turn);
        } else if (kind < 23) {
            both("join(" + place + ")", () -> x.join(place), () -> model.join(place));
        } else if (kind < 29) {
            int time = below(5) == 0 ? below(300) - 20 : place < 0 ? 1 : Math.max(1, model.time(place) / 2);
            scratch(place, time);
        } else if (kind < 33) {
            change(place, below(6) == 0 ? below(2) * 1000 - below(3) + 1 : 80 + below(170));
        } else if (kind < 38) {
            flipBit();
        } else if (kind < 43) {
            int setting = below(5) == 0 ? EDGES[below(EDGES.length)] : below(4);
            int[][] ranges = {{5, 30}, {50, 95}, {0, 100}, {0, 40}};
            int[] range = ranges[setting < 0 || setting > 3 ? 0 : setting];
            set(setting, range[0] - 1 + below(range[1] - range[0] + 3));
        } else if (kind < 46) {
            both("undo()", x::undo, model::undo);
        } else {
            int slot = below(6) == 0 ? EDGES[below(EDGES.length)] : below(2);
            if (kind < 48) {
                both("keep(" + slot + ")", () -> x.keep(slot), () -> model.keep(slot));
            } else {
                both("goBack(" + slot + ")", () -> x.goBack(slot), () -> model.goBack(slot));
            }
        }
    }

    /** Makes a bit of a row that is read well another one. */
    private void flipBit() {
        int place = place();
        if (place < 0 || place >= model.count(0)) {
            return;
        }
        if (model.time(place) >= 150) {
            scratch(place, model.time(place) / 2);
        } else {
            both("join(" + place + ")", () -> x.join(place), () -> model.join(place));
        }
    }

    private void bufferCall() {
        int kind = below(8);
        if (kind == 0) {
            both("clearBuffer()", x::clearBuffer, model::clearBuffer);
        } else if (kind == 1) {
            append(below(140));
        } else if (kind < 5) {
            append(GOOD.charAt(below(GOOD.length())));
        } else {
            both("firstError()", x::firstError, model::firstError);
        }
    }

    private void look(int kind) {
        boolean backwards = below(2) == 0;
        int what = below(10) == 0 ? EDGES[below(EDGES.length)] : below(8);
        int place = place();
        switch (kind % 12) {
            case 0 -> both("time(" + place + ")", () -> x.time(place), () -> model.time(place));
            case 1 -> both("written(" + what + ")", () -> x.written(what), () -> model.written(what));
            case 2, 3 -> both("reads(" + backwards + ", " + what + ")",
                    () -> x.reads(backwards, what), () -> model.reads(backwards, what));
            case 4 -> both("bit(" + backwards + ", " + place + ")",
                    () -> x.bit(backwards, place), () -> model.bit(backwards, place));
            case 5 -> both("letter(" + backwards + ", " + what + ")",
                    () -> x.letter(backwards, what), () -> model.letter(backwards, what));
            case 6 -> both("count(" + what + ")", () -> x.count(what), () -> model.count(what));
            case 7 -> both("setting(" + what + ")", () -> x.setting(what), () -> model.setting(what));
            case 8 -> both("isRight()", x::isRight, model::isRight);
            case 9 -> both("repair(" + what + ")", () -> x.repair(what), () -> model.repair(what));
            case 10 -> both("ratios(" + what + ")", () -> x.ratios(what), () -> model.ratios(what));
            default -> {
                both("greatestJerk()", x::greatestJerk, model::greatestJerk);
                both("shortShare()", x::shortShare, model::shortShare);
            }
        }
    }

    private void append(int code) {
        both("append(" + code + ")", () -> x.append(code), () -> model.append(code));
    }

    private void scratch(int place, int time) {
        both("scratch(" + place + ", " + time + ")", () -> x.scratch(place, time), () -> model.scratch(place, time));
    }

    private void change(int place, int time) {
        both("change(" + place + ", " + time + ")", () -> x.change(place, time), () -> model.change(place, time));
    }

    private void set(int setting, int value) {
        both("set(" + setting + ", " + value + ")", () -> x.set(setting, value), () -> model.set(setting, value));
    }

    /** A row of groups as no card has them: without letters, with wrong parity here and there, with bits that lack. */
    private void layCard() {
        StringBuilder bits = new StringBuilder("0".repeat(below(4)));
        bits.append(Rows.group(11));
        int letters = below(4);
        int check = 11 ^ 15;
        for (int i = 0; i < letters; i++) {
            int letter = below(16);
            check ^= letter;
            bits.append(below(4) == 0 ? Rows.bad(letter ^ 1 << below(4)) : Rows.group(letter));
        }
        bits.append(below(8) == 0 ? Rows.bad(15) : Rows.group(15));
        bits.append(below(8) == 0 ? Rows.bad(check) : Rows.group(check));
        String text = bits.append("0".repeat(below(4))).toString();
        layRow(Rows.times(below(6) == 0 ? text.substring(0, text.length() - below(12)) : text));
    }

    private void layNoise() {
        int[] times = new int[1 + below(60)];
        for (int i = 0; i < times.length; i++) {
            times[i] = (below(2) + 1) * (80 + below(40));
        }
        layRow(times);
    }

    private void layRow(int[] times) {
        append('0');
        both("write()", x::write, model::write);
        while (model.count(0) > times.length) {
            both("join(0)", () -> x.join(0), () -> model.join(0));
        }
        while (model.count(0) < times.length) {
            change(0, 999);
            scratch(0, 1);
        }
        for (int i = 0; i < times.length; i++) {
            change(i, times[i]);
        }
        lookAtAll();
        for (int i = 0; i < 8; i++) {
            flipBit();
            lookAtAll();
            both("undo()", x::undo, model::undo);
        }
    }

    private void lookAtAll() {
        both("digest()", x::digest, model::digest);
        note();
    }

    private void both(String call, Tally.Call real, Tally.Call due) {
        if (!wrong.isEmpty() || made >= 512) {
            return;
        }
        made++;
        calls.append(call).append("; ");
        String got = Tally.told(real);
        String want = Tally.told(due);
        if (!got.equals(want)) {
            wrong = "got " + got + ", due is " + want + " behind " + calls;
        }
    }
}
