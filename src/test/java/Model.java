import java.util.ArrayDeque;
import java.util.ArrayList;
import java.util.Collections;
import java.util.Deque;
import java.util.List;

/** The document once more, written with lists and texts, to compare StripeSwipes with over random runs. */
final class Model {
    private static final String SIGNS = "0123456789a.c=e.";
    private static final int[][] RANGES = {{5, 30}, {50, 95}, {0, 100}, {0, 40}};

    private record Kept(List<Integer> times, List<Integer> card, List<Integer> settings) {
    }

    private record Read(int reason, String bits, int start, List<Integer> letters, long clock) {
    }

    private Kept now = new Kept(List.of(), List.of(), List.of(10, 75, 50, 0));
    private final Kept[] slots = new Kept[2];
    private final Deque<Kept> saved = new ArrayDeque<>();
    private String buffer = "";

    private void become(Kept next) {
        saved.addLast(now);
        if (saved.size() > 6) {
            saved.removeFirst();
        }
        now = next;
    }

    private static List<Integer> with(List<Integer> list, int place, int value) {
        List<Integer> copy = new ArrayList<>(list);
        copy.set(place, value);
        return copy;
    }

    private static <T> List<T> reversed(List<T> list) {
        List<T> copy = new ArrayList<>(list);
        Collections.reverse(copy);
        return copy;
    }

    private static int check(List<Integer> card) {
        int check = 0;
        for (int k = 0; k < 4; k++) {
            int ones = 2 - (k == 2 ? 1 : 0); // start 1011 and end 1111
            for (int letter : card) {
                ones += letter >> k & 1;
            }
            check += ones % 2 << k;
        }
        return check;
    }

    private static List<Integer> swiped(List<Integer> card, int zeros, int jerk) {
        StringBuilder bits = new StringBuilder("0".repeat(zeros)).append(Rows.group(11));
        card.forEach(letter -> bits.append(Rows.group(letter)));
        bits.append(Rows.group(15)).append(Rows.group(check(card))).append("0".repeat(zeros));
        List<Integer> times = new ArrayList<>();
        for (int k = 0; k < bits.length(); k++) {
            int time = 200 + jerk * (k % 5) - 2 * jerk;
            if (bits.charAt(k) == '1') {
                times.add(time / 2);
                times.add(time - time / 2);
            } else {
                times.add(time);
            }
        }
        return times;
    }

    private static boolean odd(String group) {
        return group.chars().filter(c -> c == '1').count() % 2 == 1;
    }

    private static int number(String group) {
        return Integer.parseInt(new StringBuilder(group.substring(0, 4)).reverse().toString(), 2);
    }

    private static Read reader(List<Integer> times, int ratio, int follow) {
        int few = Math.min(4, times.size());
        long clock = few == 0 ? 0 : times.subList(0, few).stream().mapToLong(t -> t).sum() / few;
        StringBuilder bits = new StringBuilder();
        boolean broken = false;
        for (int i = 0; i < times.size() && !broken; ) {
            long limit = clock * ratio / 100;
            if (times.get(i) >= limit) {
                bits.append('0');
                clock = (clock * (100 - follow) + (long) times.get(i) * follow) / 100;
                i++;
            } else if (i + 1 < times.size() && times.get(i + 1) < limit) {
                bits.append('1');
                clock = (clock * (100 - follow) + (long) (times.get(i) + times.get(i + 1)) * follow) / 100;
                i += 2;
            } else {
                broken = true;
            }
        }
        String all = bits.toString();
        int start = all.indexOf("11010");
        List<String> groups = new ArrayList<>();
        if (start >= 0) {
            for (int i = start + 5; i + 5 <= all.length(); i += 5) {
                groups.add(all.substring(i, i + 5));
            }
        }
        List<Integer> letters = new ArrayList<>();
        for (String group : groups) {
            if (number(group) == 15 || !odd(group)) {
                break;
            }
            letters.add(number(group));
        }
        return new Read(broken ? 5 : reason(start, groups), all, start, letters, clock);
    }

    private static int reason(int start, List<String> groups) {
        if (start < 0) {
            return 1;
        }
        int end = -1;
        for (int i = 0; i < groups.size() && end < 0; i++) {
            if (!odd(groups.get(i))) {
                return 2;
            }
            if (number(groups.get(i)) == 15) {
                end = i;
            }
        }
        if (end < 0 || end + 1 >= groups.size()) {
            return 3;
        }
        if (!odd(groups.get(end + 1))) {
            return 2;
        }
        for (int k = 0; k < 4; k++) {
            int ones = k == 2 ? 0 : 1;
            for (int i = 0; i <= end + 1; i++) {
                ones += groups.get(i).charAt(k) - '0';
            }
            if (ones % 2 != 0) {
                return 4;
            }
        }
        return end == 0 ? 6 : 0;
    }

    private Read read(boolean backwards) {
        return reader(backwards ? reversed(now.times) : now.times, now.settings.get(1), now.settings.get(2));
    }

    private int right(int ratio) {
        for (int way = 1; way <= 2; way++) {
            Read read = reader(way == 2 ? reversed(now.times) : now.times, ratio, now.settings.get(2));
            if (read.reason == 0 && read.letters.equals(now.card)) {
                return way;
            }
        }
        return 0;
    }

    private static void need(boolean fine, RuntimeException otherwise) {
        if (!fine) {
            throw otherwise;
        }
    }

    private static IllegalArgumentException argument() {
        return new IllegalArgumentException();
    }

    private static IllegalStateException wrongState() {
        return new IllegalStateException();
    }

    private static IndexOutOfBoundsException index() {
        return new IndexOutOfBoundsException();
    }

    int write() {
        need(!buffer.isEmpty() && firstError() == buffer.length(), argument());
        List<Integer> card = new ArrayList<>();
        buffer.chars().forEach(c -> card.add(SIGNS.indexOf(c)));
        List<Integer> times = swiped(card, now.settings.get(0), now.settings.get(3));
        need(times.size() <= 200, wrongState());
        become(new Kept(times, card, now.settings));
        buffer = "";
        return times.size();
    }

    int swipe() {
        need(!now.card.isEmpty(), wrongState());
        List<Integer> times = swiped(now.card, now.settings.get(0), now.settings.get(3));
        need(times.size() <= 200, wrongState());
        become(new Kept(times, now.card, now.settings));
        return times.size();
    }

    int turn() {
        become(new Kept(reversed(now.times), now.card, now.settings));
        return now.times.isEmpty() ? 0 : now.times.get(0);
    }

    int join(int place) {
        need(place >= 0 && (long) place + 1 < now.times.size(), index());
        List<Integer> times = with(now.times, place, now.times.get(place) + now.times.get(place + 1));
        times.remove(place + 1);
        become(new Kept(times, now.card, now.settings));
        return times.get(place);
    }

    int scratch(int place, int time) {
        need(place >= 0 && place < now.times.size(), index());
        need(time >= 1 && time < now.times.get(place), argument());
        need(now.times.size() < 200, wrongState());
        List<Integer> times = with(now.times, place, time);
        times.add(place + 1, now.times.get(place) - time);
        become(new Kept(times, now.card, now.settings));
        return times.size();
    }

    int change(int place, int time) {
        need(place >= 0 && place < now.times.size(), index());
        need(time >= 1 && time <= 999, argument());
        int before = now.times.get(place);
        become(new Kept(with(now.times, place, time), now.card, now.settings));
        return before;
    }

    int set(int setting, int value) {
        need(setting >= 0 && setting <= 3, index());
        need(value >= RANGES[setting][0] && value <= RANGES[setting][1], argument());
        int before = now.settings.get(setting);
        become(new Kept(now.times, now.card, with(now.settings, setting, value)));
        return before;
    }

    int append(int code) {
        need(code >= 33 && code <= 126, argument());
        need(buffer.length() < 40, wrongState());
        buffer += (char) code;
        return buffer.length();
    }

    int clearBuffer() {
        int length = buffer.length();
        buffer = "";
        return length;
    }

    int firstError() {
        int good = 0;
        while (good < buffer.length() && buffer.substring(0, good + 1).matches("[0-9ac=e]{1,20}")) {
            good++;
        }
        return good;
    }

    int keep(int slot) {
        need(slot == 0 || slot == 1, argument());
        slots[slot] = now;
        return now.times.size();
    }

    int goBack(int slot) {
        need(slot == 0 || slot == 1, argument());
        need(slots[slot] != null, wrongState());
        become(slots[slot]);
        return now.times.size();
    }

    int undo() {
        need(!saved.isEmpty(), wrongState());
        now = saved.removeLast();
        return saved.size();
    }

    private static int at(List<Integer> list, int place) {
        need(place >= 0, argument());
        return place < list.size() ? list.get(place) : -1;
    }

    int time(int place) {
        return at(now.times, place);
    }

    int written(int place) {
        return at(now.card, place);
    }

    int reads(boolean backwards, int what) {
        need(what >= 0 && what <= 4, argument());
        Read read = read(backwards);
        return List.of(read.reason, read.bits.length(), read.start, read.letters.size(), (int) read.clock).get(what);
    }

    int bit(boolean backwards, int place) {
        return at(read(backwards).bits.chars().map(c -> c - '0').boxed().toList(), place);
    }

    int letter(boolean backwards, int place) {
        return at(read(backwards).letters, place);
    }

    int count(int what) {
        need(what >= 0 && what <= 6, argument());
        return switch (what) {
            case 0 -> now.times.size();
            case 1 -> now.times.stream().mapToInt(t -> t).sum();
            case 2 -> now.times.stream().mapToInt(t -> t).min().orElse(0);
            case 3 -> now.times.stream().mapToInt(t -> t).max().orElse(0);
            case 4 -> now.card.size();
            case 5 -> now.card.isEmpty() ? -1 : check(now.card);
            default -> saved.size();
        };
    }

    int setting(int setting) {
        need(setting >= 0 && setting <= 3, index());
        return now.settings.get(setting);
    }

    int isRight() {
        return right(now.settings.get(1));
    }

    int repair(int what) {
        need(what == 0 || what == 1, argument());
        Read read = read(false);
        if (read.reason != 2) {
            return -1;
        }
        String rest = read.bits.substring(read.start + 5);
        int wrong = -1;
        int wrongOnes = 0;
        int sum = 11;
        for (int place = 0; 5 * place + 10 <= rest.length(); place++) {
            String group = rest.substring(5 * place, 5 * place + 5);
            if (!odd(group)) {
                wrong = place;
                wrongOnes++;
                continue;
            }
            sum ^= number(group);
            if (number(group) == 15) {
                String check = rest.substring(5 * place + 5, 5 * place + 10);
                boolean fine = wrongOnes == 1 && odd(check);
                return !fine ? -1 : what == 0 ? wrong : sum ^ number(check);
            }
        }
        return -1;
    }

    int ratios(int what) {
        need(what >= 0 && what <= 2, argument());
        List<Integer> good = new ArrayList<>();
        for (int ratio = 50; ratio <= 95; ratio++) {
            if (right(ratio) > 0) {
                good.add(ratio);
            }
        }
        if (what == 2) {
            return good.size();
        }
        return good.isEmpty() ? -1 : what == 0 ? good.get(0) : good.get(good.size() - 1);
    }

    int greatestJerk() {
        int greatest = -1;
        for (int jerk = 0; jerk <= 40 && !now.card.isEmpty(); jerk++) {
            List<Integer> times = swiped(now.card, now.settings.get(0), jerk);
            Read read = reader(times, now.settings.get(1), now.settings.get(2));
            if (times.size() <= 200 && read.reason == 0 && read.letters.equals(now.card)) {
                greatest = jerk;
            }
        }
        return greatest;
    }

    double shortShare() {
        if (now.times.isEmpty()) {
            return 0.0;
        }
        long limit = (long) (count(1) / now.times.size()) * now.settings.get(1) / 100;
        return (double) now.times.stream().filter(t -> t < limit).count() / now.times.size();
    }

    long digest() {
        List<Long> values = new ArrayList<>();
        for (int what = 0; what <= 6; what++) {
            values.add((long) count(what));
        }
        now.settings.forEach(v -> values.add((long) v));
        now.times.forEach(v -> values.add((long) v));
        now.card.forEach(v -> values.add((long) v));
        for (boolean backwards : new boolean[] {false, true}) {
            for (int what = 0; what <= 4; what++) {
                values.add((long) reads(backwards, what));
            }
            read(backwards).bits.chars().forEach(c -> values.add((long) c - '0'));
            read(backwards).letters.forEach(v -> values.add((long) v));
        }
        values.add((long) isRight());
        values.add((long) repair(0));
        values.add((long) repair(1));
        for (int what = 0; what <= 2; what++) {
            values.add((long) ratios(what));
        }
        values.add((long) greatestJerk());
        values.add(Double.doubleToLongBits(shortShare()));
        values.add(slots[0] == null ? 0L : 1L);
        values.add(slots[1] == null ? 0L : 1L);
        values.add((long) buffer.length());
        buffer.chars().forEach(c -> values.add((long) c));
        return values.stream().reduce(2963L, (hash, v) -> 31 * hash + v);
    }
}
