import java.lang.management.ManagementFactory;
import java.util.Random;
import java.util.Set;

/** Calls without end and with any arguments never make the machine throw, and make next to no objects. */
final class EndlessTests {
    private static final Set<String> ALLOWED = Set.of("throws.IllegalArgumentException",
            "throws.IllegalStateException", "throws.IndexOutOfBoundsException");
    private static final int[] EDGES = {-1, 0, 1, 2, 3, 5, 39, 40, 41, 48, 49, 97, 100, 199, 200, 500, 999,
        Integer.MAX_VALUE, Integer.MAX_VALUE - 1, Integer.MIN_VALUE};

    private EndlessTests() {
    }

    static void run(Tally tally) {
        manyCalls(tally);
        greatTimes(tally);
        fewObjects(tally);
    }

    private static void manyCalls(Tally tally) {
        Random random = new Random(7);
        StripeSwipes x = new StripeSwipes();
        String wrong = "";
        for (int i = 0; i < 60000 && wrong.isEmpty(); i++) {
            int kind = random.nextInt(26);
            int a = random.nextBoolean() ? EDGES[random.nextInt(EDGES.length)] : random.nextInt(128);
            int b = EDGES[random.nextInt(EDGES.length)];
            String answer = Tally.told(() -> call(x, kind, a, b));
            if (answer.startsWith("throws.") && !ALLOWED.contains(answer)) {
                wrong = "call " + kind + "(" + a + ", " + b + "): " + answer;
            }
        }
        tally.is("rule 7: the machine never throws", wrong, "");
    }

    private static Object call(StripeSwipes x, int kind, int a, int b) {
        boolean backwards = (b & 1) == 0;
        return switch (kind) {
            case 0 -> x.write();
            case 1 -> x.swipe();
            case 2 -> x.turn();
            case 3 -> x.join(a);
            case 4 -> x.scratch(a, b);
            case 5 -> x.change(a, b);
            case 6 -> x.set(a % 8, b);
            case 7 -> x.append(a);
            case 8 -> a < 5 ? x.clearBuffer() : x.append(48 + (a & 7));
            case 9 -> x.firstError();
            case 10 -> x.keep(a);
            case 11 -> x.goBack(a);
            case 12 -> x.undo();
            case 13 -> x.time(a);
            case 14 -> x.written(a);
            case 15 -> x.reads(backwards, a);
            case 16 -> x.bit(backwards, a);
            case 17 -> x.letter(backwards, a);
            case 18 -> x.count(a);
            case 19 -> x.setting(a);
            case 20 -> x.isRight();
            case 21 -> x.repair(a);
            case 22 -> x.ratios(a);
            case 23 -> x.greatestJerk();
            case 24 -> x.shortShare();
            default -> x.digest();
        };
    }

    /** Far behind the 512th call a time outgrows an int; what is answered then is free, but it is an answer. */
    private static void greatTimes(Tally tally) {
        StripeSwipes x = Rows.row(999, 999);
        for (int i = 0; i < 2200000; i++) {
            x.join(0);
            x.scratch(0, 1);
            x.change(0, 999);
            if (x.count(1) < 0) {
                break;
            }
        }
        tally.is("rule 7: sums that wrap around", Tally.told(x::digest).startsWith("throws."), false);
        tally.is("rule 7: a share of such times", Tally.told(x::shortShare).startsWith("throws."), false);
    }

    private static void fewObjects(Tally tally) {
        if (!(ManagementFactory.getThreadMXBean() instanceof com.sun.management.ThreadMXBean counter)) {
            return;
        }
        StripeSwipes x = Rows.card(CardTests.FULL);
        long own = Thread.currentThread().getId();
        long before = counter.getThreadAllocatedBytes(own);
        for (int i = 0; i < 50; i++) {
            x.digest();
            x.turn();
            x.keep(i % 2);
            x.goBack(i % 2);
            x.join(0);
            x.swipe();
            x.undo();
        }
        long made = counter.getThreadAllocatedBytes(own) - before;
        tally.is("rule 12: bytes of new objects in 350 calls below 100,000", made < 100000, true);
    }
}
