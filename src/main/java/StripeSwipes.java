/** Magnetic stripes that are swiped, and the reader that reads them; ../shared/DOC.md tells what is promised. */
public final class StripeSwipes {
    public static final int NONE = -1;

    private static final int MOST_TIMES = 200;
    private static final int MOST_LETTERS = 20;
    private static final int MOST_CHARACTERS = 40;
    private static final int MOST_SAVED = 6;
    private static final int SLOTS = 2;
    private static final int RATIOS = 46;

    private static final int START = 11;
    private static final int START_BITS = 26; // 11010
    private static final int END = 15;
    private static final int GROUP = 5;
    private static final int NUMBER_BITS = 4;

    private static final int ZEROS = 0;
    private static final int RATIO = 1;
    private static final int FOLLOW = 2;
    private static final int JERK = 3;
    private static final int[] FIRST_VALUES = {10, 75, 50, 0};
    private static final int[] LEAST_VALUES = {5, 50, 0, 0};
    private static final int[] MOST_VALUES = {30, 95, 100, 40};

    private static final int READ = 0;
    private static final int NO_START = 1;
    private static final int BAD_PARITY = 2;
    private static final int TOO_FEW_BITS = 3;
    private static final int BAD_CHECK = 4;
    private static final int LONE_SHORT_TIME = 5;
    private static final int NO_LETTERS = 6;

    private final State state = new State();
    private final State[] slots = new State[SLOTS];
    private final History history = new History();
    private final Row buffer = new Row(MOST_CHARACTERS);

    // Rows for passing work, made once so that no call has to make any.
    private final Reading reading = new Reading();
    private final Stripe stripe = new Stripe();
    private final Row newLetters = new Row(MOST_LETTERS);
    private final Row trialTimes = new Row(MOST_TIMES);
    private final Row goodRatios = new Row(RATIOS);

    public StripeSwipes() {
    }

    // ---- cards, times

    public int write() throws IllegalArgumentException, IllegalStateException {
        if (buffer.size() == 0 || errorPlace() < buffer.size()) {
            throw new IllegalArgumentException("the buffer does not tell a card");
        }
        newLetters.empty();
        for (int i = 0; i < buffer.size(); i++) {
            newLetters.add(letterOfCode(buffer.at(i)));
        }
        stripe.layOut(newLetters, value(ZEROS));
        if (stripe.timesNeeded() > MOST_TIMES) {
            throw new IllegalStateException("the row would have too many times");
        }
        history.save(state);
        state.letters.copyFrom(newLetters);
        stripe.passInto(state.times, value(JERK));
        buffer.empty();
        return state.times.size();
    }

    public int swipe() throws IllegalStateException {
        if (state.letters.size() == 0) {
            throw new IllegalStateException("no card was written");
        }
        stripe.layOut(state.letters, value(ZEROS));
        if (stripe.timesNeeded() > MOST_TIMES) {
            throw new IllegalStateException("the row would have too many times");
        }
        history.save(state);
        stripe.passInto(state.times, value(JERK));
        return state.times.size();
    }

    public int turn() {
        history.save(state);
        state.times.reverse();
        return state.times.size() == 0 ? 0 : state.times.at(0);
    }

    public int join(int place) throws IndexOutOfBoundsException {
        if (place < 0 || place >= state.times.size() - 1) {
            throw new IndexOutOfBoundsException("there are not both times");
        }
        history.save(state);
        int joined = state.times.at(place) + state.times.at(place + 1);
        state.times.put(place, joined);
        state.times.remove(place + 1);
        return joined;
    }

    public int scratch(int place, int time)
            throws IndexOutOfBoundsException, IllegalArgumentException, IllegalStateException {
        if (!state.times.has(place)) {
            throw new IndexOutOfBoundsException("there is no such time");
        }
        int whole = state.times.at(place);
        if (time < 1 || time >= whole) {
            throw new IllegalArgumentException("the time is out of range");
        }
        if (state.times.size() >= MOST_TIMES) {
            throw new IllegalStateException("the row is full");
        }
        history.save(state);
        state.times.put(place, time);
        state.times.insert(place + 1, whole - time);
        return state.times.size();
    }

    public int change(int place, int time) throws IndexOutOfBoundsException, IllegalArgumentException {
        if (!state.times.has(place)) {
            throw new IndexOutOfBoundsException("there is no such time");
        }
        if (time < 1 || time > 999) {
            throw new IllegalArgumentException("the time is out of range");
        }
        history.save(state);
        int before = state.times.at(place);
        state.times.put(place, time);
        return before;
    }

    public int set(int setting, int value) throws IndexOutOfBoundsException, IllegalArgumentException {
        if (!state.settings.has(setting)) {
            throw new IndexOutOfBoundsException("there is no such setting");
        }
        if (value < entry(LEAST_VALUES, setting) || value > entry(MOST_VALUES, setting)) {
            throw new IllegalArgumentException("the value is out of range");
        }
        history.save(state);
        int previous = state.settings.at(setting);
        state.settings.put(setting, value);
        return previous;
    }

    // ---- the buffer, snapshots

    public int append(int code) throws IllegalArgumentException, IllegalStateException {
        if (code < 33 || code > 126) {
            throw new IllegalArgumentException("the code is out of range");
        }
        if (buffer.size() >= MOST_CHARACTERS) {
            throw new IllegalStateException("the buffer is full");
        }
        buffer.add(code);
        return buffer.size();
    }

    public int clearBuffer() {
        int length = buffer.size();
        buffer.empty();
        return length;
    }

    public int firstError() {
        return errorPlace();
    }

    public int keep(int slot) throws IllegalArgumentException {
        if (slot < 0 || slot >= slots.length) {
            throw new IllegalArgumentException("there is no such slot");
        }
        State snapshot = slots[slot];
        if (snapshot == null) {
            snapshot = new State();
            slots[slot] = snapshot;
        }
        snapshot.copyFrom(state);
        return state.times.size();
    }

    public int goBack(int slot) throws IllegalArgumentException, IllegalStateException {
        if (slot < 0 || slot >= slots.length) {
            throw new IllegalArgumentException("there is no such slot");
        }
        State snapshot = slots[slot];
        if (snapshot == null) {
            throw new IllegalStateException("the slot is empty");
        }
        history.save(state);
        state.copyFrom(snapshot);
        return state.times.size();
    }

    public int undo() throws IllegalStateException {
        State latest = history.takeLatest();
        if (latest == null) {
            throw new IllegalStateException("no state is saved");
        }
        state.copyFrom(latest);
        return history.depth();
    }

    // ---- looks; nothing is changed

    public int time(int place) throws IllegalArgumentException {
        if (place < 0) {
            throw new IllegalArgumentException("the place is below 0");
        }
        return state.times.at(place);
    }

    public int written(int place) throws IllegalArgumentException {
        if (place < 0) {
            throw new IllegalArgumentException("the place is below 0");
        }
        return state.letters.at(place);
    }

    public int reads(boolean backwards, int what) throws IllegalArgumentException {
        if (what < 0 || what > 4) {
            throw new IllegalArgumentException("there is no such number");
        }
        readRow(backwards);
        return reading.told(what);
    }

    public int bit(boolean backwards, int place) throws IllegalArgumentException {
        if (place < 0) {
            throw new IllegalArgumentException("the place is below 0");
        }
        readRow(backwards);
        return reading.bits.at(place);
    }

    public int letter(boolean backwards, int place) throws IllegalArgumentException {
        if (place < 0) {
            throw new IllegalArgumentException("the place is below 0");
        }
        readRow(backwards);
        return reading.letters.at(place);
    }

    public int count(int what) throws IllegalArgumentException {
        switch (what) {
            case 0:
                return state.times.size();
            case 1:
                return state.times.sum();
            case 2:
                return state.times.least();
            case 3:
                return state.times.greatest();
            case 4:
                return state.letters.size();
            case 5:
                return state.letters.size() == 0 ? NONE : checkOf(state.letters);
            case 6:
                return history.depth();
            default:
                throw new IllegalArgumentException("there is no such number");
        }
    }

    public int setting(int setting) throws IndexOutOfBoundsException {
        if (!state.settings.has(setting)) {
            throw new IndexOutOfBoundsException("there is no such setting");
        }
        return state.settings.at(setting);
    }

    // ---- what would be; nothing is changed

    public int isRight() {
        return rightWith(value(RATIO));
    }

    public int repair(int what) throws IllegalArgumentException {
        if (what != 0 && what != 1) {
            throw new IllegalArgumentException("there is no such number");
        }
        readRow(false);
        int place = reading.repairablePlace();
        if (what == 0 || place == NONE) {
            return place;
        }
        return reading.repairedNumber(place);
    }

    public int ratios(int what) throws IllegalArgumentException {
        if (what < 0 || what > 2) {
            throw new IllegalArgumentException("there is no such number");
        }
        findGoodRatios();
        return toldOfRatios(what);
    }

    public int greatestJerk() {
        if (state.letters.size() == 0) {
            return NONE;
        }
        stripe.layOut(state.letters, value(ZEROS));
        if (stripe.timesNeeded() > MOST_TIMES) {
            return NONE;
        }
        for (int jerk = entry(MOST_VALUES, JERK); jerk >= entry(LEAST_VALUES, JERK); jerk--) {
            stripe.passInto(trialTimes, jerk);
            reading.read(trialTimes, false, value(RATIO), value(FOLLOW));
            if (reading.isCard(state.letters)) {
                return jerk;
            }
        }
        return NONE;
    }

    public double shortShare() {
        int all = state.times.size();
        if (all <= 0) {
            return 0.0;
        }
        int mean = state.times.sum() / all;
        int limit = mean * value(RATIO) / 100;
        int shortTimes = 0;
        for (int i = 0; i < all; i++) {
            if (state.times.at(i) < limit) {
                shortTimes++;
            }
        }
        return (double) shortTimes / all;
    }

    public long digest() {
        long hash = 2963;
        for (int what = 0; what <= 6; what++) {
            hash = hashed(hash, count(what));
        }
        hash = hashedRow(hash, state.settings);
        hash = hashedRow(hash, state.times);
        hash = hashedRow(hash, state.letters);
        hash = hashedReading(hash, false);
        hash = hashedReading(hash, true);
        hash = hashed(hash, isRight());
        hash = hashed(hash, repair(0));
        hash = hashed(hash, repair(1));
        findGoodRatios();
        for (int what = 0; what <= 2; what++) {
            hash = hashed(hash, toldOfRatios(what));
        }
        hash = hashed(hash, greatestJerk());
        hash = hashed(hash, bitsOfShare(shortShare()));
        for (int slot = 0; slot < slots.length; slot++) {
            hash = hashed(hash, slots[slot] == null ? 0 : 1);
        }
        hash = hashed(hash, buffer.size());
        return hashedRow(hash, buffer);
    }

    // ---- helpers

    private int value(int setting) {
        return state.settings.at(setting);
    }

    private void readRow(boolean backwards) {
        reading.read(state.times, backwards, value(RATIO), value(FOLLOW));
    }

    /** What isRight() would tell with this ratio. */
    private int rightWith(int ratio) {
        reading.read(state.times, false, ratio, value(FOLLOW));
        if (reading.isCard(state.letters)) {
            return 1;
        }
        reading.read(state.times, true, ratio, value(FOLLOW));
        return reading.isCard(state.letters) ? 2 : 0;
    }

    private void findGoodRatios() {
        goodRatios.empty();
        int last = entry(MOST_VALUES, RATIO);
        for (int ratio = entry(LEAST_VALUES, RATIO); ratio <= last; ratio++) {
            if (rightWith(ratio) > 0) {
                goodRatios.add(ratio);
            }
        }
    }

    private int toldOfRatios(int what) {
        switch (what) {
            case 0:
                return goodRatios.at(0);
            case 1:
                return goodRatios.at(goodRatios.size() - 1);
            default:
                return goodRatios.size();
        }
    }

    private int errorPlace() {
        for (int i = 0; i < buffer.size(); i++) {
            if (i >= MOST_LETTERS || letterOfCode(buffer.at(i)) == NONE) {
                return i;
            }
        }
        return buffer.size();
    }

    private static int letterOfCode(int code) {
        if (code >= '0' && code <= '9') {
            return code - '0';
        }
        switch (code) {
            case 'a':
                return 10;
            case 'c':
                return 12;
            case '=':
                return 13;
            case 'e':
                return 14;
            default:
                return NONE;
        }
    }

    private static int entry(int[] table, int place) {
        return place < 0 || place >= table.length ? NONE : table[place];
    }

    private static int checkOf(Row letters) {
        int check = START ^ END;
        for (int i = 0; i < letters.size(); i++) {
            check ^= letters.at(i);
        }
        return check;
    }

    private static long hashed(long hash, long next) {
        return 31 * hash + next;
    }

    private static long hashedRow(long hash, Row row) {
        for (int i = 0; i < row.size(); i++) {
            hash = hashed(hash, row.at(i));
        }
        return hash;
    }

    private long hashedReading(long hash, boolean backwards) {
        readRow(backwards);
        for (int what = 0; what <= 4; what++) {
            hash = hashed(hash, reading.told(what));
        }
        hash = hashedRow(hash, reading.bits);
        return hashedRow(hash, reading.letters);
    }

    /** Double.doubleToLongBits is outside the library that LANGUAGE.md leaves; this does it for 0.0 to 1.0. */
    private static long bitsOfShare(double share) {
        if (share <= 0.0) {
            return 0;
        }
        double fraction = share;
        long exponent = 1023;
        // A share is 1/200 at least, so the bound is never what ends this.
        for (int i = 0; i < 64 && fraction < 1.0; i++) {
            fraction = fraction * 2.0;
            exponent--;
        }
        // 2 to the power of 52: the digits behind the point, all of which are then in front of it.
        long digits = (long) ((fraction - 1.0) * 4503599627370496.0);
        return (exponent << 52) | digits;
    }

    /** A row of numbers that never holds more than it was made for. Each index of its array is tested here. */
    private static final class Row {
        private final int[] items;
        private int size = 0;

        Row(int most) {
            items = new int[Math.max(0, most)];
        }

        int size() {
            return size;
        }

        boolean has(int place) {
            return place >= 0 && place < size;
        }

        /** The number at the place; NONE if there are not so many. */
        int at(int place) {
            return place >= 0 && place < size && place < items.length ? items[place] : NONE;
        }

        void put(int place, int number) {
            if (place >= 0 && place < size && place < items.length) {
                items[place] = number;
            }
        }

        /** Tells whether there was room. */
        boolean add(int number) {
            if (size < 0 || size >= items.length) {
                return false;
            }
            items[size] = number;
            size++;
            return true;
        }

        void insert(int place, int number) {
            if (!add(number)) {
                return;
            }
            for (int i = size - 1; i > place; i--) {
                put(i, at(i - 1));
            }
            put(place, number);
        }

        void remove(int place) {
            if (!has(place)) {
                return;
            }
            for (int i = place; i < size - 1; i++) {
                put(i, at(i + 1));
            }
            size--;
        }

        void empty() {
            size = 0;
        }

        void copyFrom(Row other) {
            size = 0;
            for (int i = 0; i < other.size(); i++) {
                add(other.at(i));
            }
        }

        void reverse() {
            for (int i = 0; i < size / 2; i++) {
                int former = at(i);
                put(i, at(size - 1 - i));
                put(size - 1 - i, former);
            }
        }

        int sum() {
            int sum = 0;
            for (int i = 0; i < size; i++) {
                sum += at(i);
            }
            return sum;
        }

        /** The least number, 0 without numbers. */
        int least() {
            int least = size == 0 ? 0 : at(0);
            for (int i = 1; i < size; i++) {
                least = Math.min(least, at(i));
            }
            return least;
        }

        /** The greatest number, 0 without numbers. */
        int greatest() {
            int greatest = size == 0 ? 0 : at(0);
            for (int i = 1; i < size; i++) {
                greatest = Math.max(greatest, at(i));
            }
            return greatest;
        }

        boolean sameAs(Row other) {
            if (size != other.size()) {
                return false;
            }
            for (int i = 0; i < size; i++) {
                if (at(i) != other.at(i)) {
                    return false;
                }
            }
            return true;
        }
    }

    /** What a snapshot and a saved state hold. Without a card there are no letters, as a card has one at least. */
    private static final class State {
        private final Row times = new Row(MOST_TIMES);
        private final Row letters = new Row(MOST_LETTERS);
        private final Row settings = new Row(FIRST_VALUES.length);

        State() {
            for (int i = 0; i < FIRST_VALUES.length; i++) {
                settings.add(FIRST_VALUES[i]);
            }
        }

        void copyFrom(State other) {
            times.copyFrom(other.times);
            letters.copyFrom(other.letters);
            settings.copyFrom(other.settings);
        }
    }

    /** The saved states, the oldest one first. A state that was dropped is used again, as an object. */
    private static final class History {
        private final State[] states = new State[MOST_SAVED];
        private int depth = 0;

        int depth() {
            return depth;
        }

        void save(State now) {
            if (depth >= states.length) {
                dropOldest();
            }
            if (depth < 0 || depth >= states.length) {
                return;
            }
            State saved = states[depth];
            if (saved == null) {
                saved = new State();
                states[depth] = saved;
            }
            saved.copyFrom(now);
            depth++;
        }

        private void dropOldest() {
            if (states.length == 0) {
                return;
            }
            State oldest = states[0];
            for (int i = 1; i < states.length; i++) {
                states[i - 1] = states[i];
            }
            states[states.length - 1] = oldest;
            depth = states.length - 1;
        }

        /** The latest state, which counts no more; null if there is none. It is good up to the next save. */
        State takeLatest() {
            if (depth <= 0 || depth > states.length) {
                return null;
            }
            depth--;
            return states[depth];
        }
    }

    /** The bits of a card, and the hand that passes it. */
    private static final class Stripe {
        private final Row bits = new Row(MOST_TIMES);

        void layOut(Row letters, int zeros) {
            bits.empty();
            addZeros(zeros);
            addGroup(START);
            for (int i = 0; i < letters.size(); i++) {
                addGroup(letters.at(i));
            }
            addGroup(END);
            addGroup(checkOf(letters));
            addZeros(zeros);
        }

        private void addZeros(int zeros) {
            for (int i = 0; i < zeros; i++) {
                bits.add(0);
            }
        }

        private void addGroup(int number) {
            int parity = 1;
            for (int i = 0; i < NUMBER_BITS; i++) {
                int next = (number >> i) & 1;
                bits.add(next);
                parity ^= next;
            }
            bits.add(parity);
        }

        int timesNeeded() {
            return bits.size() + bits.sum();
        }

        void passInto(Row times, int jerk) {
            times.empty();
            for (int i = 0; i < bits.size(); i++) {
                int whole = 200 + jerk * (i % 5) - 2 * jerk;
                if (bits.at(i) == 0) {
                    times.add(whole);
                } else {
                    int half = whole / 2;
                    times.add(half);
                    times.add(whole - half);
                }
            }
        }
    }

    /** What the reader read last. */
    private static final class Reading {
        private final Row bits = new Row(MOST_TIMES);
        private final Row letters = new Row(MOST_TIMES / GROUP);
        private int reason = NO_START;
        private int start = NONE;
        private int clock = 0;

        void read(Row times, boolean backwards, int ratio, int follow) {
            clock = firstClock(times, backwards);
            boolean whole = readBits(times, backwards, ratio, follow);
            start = findStart();
            readLetters();
            reason = whole ? reasonOfBits() : LONE_SHORT_TIME;
        }

        boolean isCard(Row card) {
            return reason == READ && letters.sameAs(card);
        }

        int told(int what) {
            switch (what) {
                case 0:
                    return reason;
                case 1:
                    return bits.size();
                case 2:
                    return start;
                case 3:
                    return letters.size();
                default:
                    return clock;
            }
        }

        private static int timeOnTheWay(Row times, boolean backwards, int place) {
            return times.at(backwards ? times.size() - 1 - place : place);
        }

        private static int firstClock(Row times, boolean backwards) {
            int few = Math.min(4, times.size());
            if (few <= 0) {
                return 0;
            }
            int sum = 0;
            for (int i = 0; i < few; i++) {
                sum += timeOnTheWay(times, backwards, i);
            }
            return sum / few;
        }

        /** Tells whether all times made bits. */
        private boolean readBits(Row times, boolean backwards, int ratio, int follow) {
            bits.empty();
            int next = 0;
            while (next < times.size()) {
                int limit = clock * ratio / 100;
                int whole = timeOnTheWay(times, backwards, next);
                next++;
                if (whole >= limit) {
                    bits.add(0);
                } else {
                    int latter = timeOnTheWay(times, backwards, next);
                    if (next >= times.size() || latter >= limit) {
                        return false;
                    }
                    next++;
                    whole += latter;
                    bits.add(1);
                }
                clock = (clock * (100 - follow) + whole * follow) / 100;
            }
            return true;
        }

        private int findStart() {
            int lastFive = 0;
            for (int i = 0; i < bits.size(); i++) {
                lastFive = (lastFive << 1 | bits.at(i)) & 31;
                if (i >= GROUP - 1 && lastFive == START_BITS) {
                    return i - (GROUP - 1);
                }
            }
            return NONE;
        }

        private boolean hasGroup(int place) {
            return place >= 0 && place <= bits.size() - GROUP;
        }

        private int numberAt(int place) {
            int number = 0;
            for (int i = 0; i < NUMBER_BITS; i++) {
                number += bits.at(place + i) << i;
            }
            return number;
        }

        private boolean isOdd(int place) {
            int ones = 0;
            for (int i = 0; i < GROUP; i++) {
                ones += bits.at(place + i);
            }
            return (ones & 1) == 1;
        }

        /** The place of the first bit of a group behind the start. */
        private int placeOf(int group) {
            return start + GROUP * (group + 1);
        }

        private void readLetters() {
            letters.empty();
            if (start == NONE) {
                return;
            }
            for (int place = start + GROUP; place <= bits.size() - GROUP; place += GROUP) {
                int number = numberAt(place);
                if (number == END || !isOdd(place)) {
                    return;
                }
                letters.add(number);
            }
        }

        /** The reason that the bits give: what stands behind the letters is the end, or not as it should be. */
        private int reasonOfBits() {
            if (start == NONE) {
                return NO_START;
            }
            int end = placeOf(letters.size());
            if (!hasGroup(end)) {
                return TOO_FEW_BITS;
            }
            if (!isOdd(end)) {
                return BAD_PARITY;
            }
            int check = end + GROUP;
            if (!hasGroup(check)) {
                return TOO_FEW_BITS;
            }
            if (!isOdd(check)) {
                return BAD_PARITY;
            }
            if (numberAt(check) != checkOf(letters)) {
                return BAD_CHECK;
            }
            return letters.size() == 0 ? NO_LETTERS : READ;
        }

        /** How many groups stand between the start and the first end with odd parity; NONE without such an end. */
        private int groupsAheadOfOddEnd() {
            int groups = 0;
            for (int place = start + GROUP; place <= bits.size() - GROUP; place += GROUP) {
                if (numberAt(place) == END && isOdd(place)) {
                    return groups;
                }
                groups++;
            }
            return NONE;
        }

        /** The place of the letter that the long check can put right; NONE if it is not so. */
        int repairablePlace() {
            if (reason != BAD_PARITY) {
                return NONE;
            }
            int groups = groupsAheadOfOddEnd();
            int check = placeOf(groups + 1);
            if (groups == NONE || !hasGroup(check) || !isOdd(check)) {
                return NONE;
            }
            int wrong = NONE;
            for (int i = 0; i < groups; i++) {
                if (!isOdd(placeOf(i))) {
                    if (wrong != NONE) {
                        return NONE;
                    }
                    wrong = i;
                }
            }
            return wrong;
        }

        /** The number that the letter at the repairable place has to be, so that the long check is right. */
        int repairedNumber(int wrong) {
            int groups = groupsAheadOfOddEnd();
            int number = START;
            for (int i = 0; i <= groups + 1; i++) {
                if (i != wrong) {
                    number ^= numberAt(placeOf(i));
                }
            }
            return number;
        }
    }
}
