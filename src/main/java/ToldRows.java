/**
 * Rows told by devices to desks, late, doubled, unlike, with clocks that are off: sets by teller,
 * life and number that are joined in any order, conflicts and settling, last values by corrected
 * times, what was known when, batches that are seen whole, gaps, restarts of counters.
 */
public final class ToldRows {
    private static final int TELLERS = 5;
    private static final int GREATEST_LIFE = 3;
    private static final int MOST_MARKS = 6;
    private static final int GREATEST_TIME = 1_000_000;
    private static final int NUMBERS = 100;
    private static final int KEYS = 8;
    private static final int MOST_TELLINGS = 120;
    private static final int DESKS = 3;

    private static final int TIME_BITS = 20;
    private static final int KEY_BITS = 3;
    private static final int NUMBER_BITS = 7;
    private static final int TOLD_BITS = TIME_BITS + KEY_BITS + NUMBER_BITS;
    private static final int LIFE_BITS = 2;
    private static final int TELLER_BITS = 3;

    private static final int NONE = -1;

    private final Teller[] tellers = new Teller[TELLERS];
    private final Desk[] desks = new Desk[DESKS];
    private final Tellings kept = new Tellings();
    /** Used again by each call of gap, so that none makes a row. */
    private final boolean[] heard = new boolean[NUMBERS];

    public ToldRows() {
        for (int i = 0; i < TELLERS; i++) {
            tellers[i] = new Teller();
        }
        for (int i = 0; i < DESKS; i++) {
            desks[i] = new Desk();
        }
    }

    public int mark(int teller, int own, int real)
            throws IndexOutOfBoundsException, IllegalStateException, IllegalArgumentException {
        needTeller(teller);
        Teller by = tellers[teller];
        if (by.marks >= MOST_MARKS) {
            throw new IllegalStateException("the teller has all its marks");
        }
        needTime(own);
        needTime(real);
        if (!by.canFollow(own, real)) {
            throw new IllegalArgumentException("the own time does not rise, or the real one falls");
        }
        by.addMark(own, real);
        return by.marks;
    }

    public int real(int teller, int own) throws IndexOutOfBoundsException, IllegalArgumentException {
        needTeller(teller);
        needTime(own);
        return tellers[teller].realTime(own);
    }

    public int tell(int desk, int teller, long told, int value)
            throws IndexOutOfBoundsException, IllegalArgumentException, UnsupportedOperationException {
        needDesk(desk);
        needTeller(teller);
        needTold(told);
        int what = (int) told;
        int of = nameOf(teller, tellers[teller].life, numberIn(what));
        int i = kept.find(of, what, value);
        if (i == NONE && kept.count >= MOST_TELLINGS) {
            throw new UnsupportedOperationException("no room for one more telling");
        }
        Desk at = desks[desk];
        if (i != NONE && at.has(i)) {
            return 1;
        }
        if (i == NONE) {
            i = kept.add(of, what, value);
        }
        int answer = hasRival(at, i) ? 2 : 0;
        at.take(i);
        return answer;
    }

    public int restart(int teller) throws IndexOutOfBoundsException, IllegalStateException {
        needTeller(teller);
        Teller by = tellers[teller];
        if (by.life >= GREATEST_LIFE) {
            throw new IllegalStateException("the teller is in its last life");
        }
        by.life++;
        return by.life;
    }

    public int join(int desk, int other) throws IndexOutOfBoundsException {
        needDesk(desk);
        needDesk(other);
        if (desk == other) {
            throw new IndexOutOfBoundsException("the desks are one");
        }
        Desk to = desks[desk];
        Desk from = desks[other];
        int fresh = 0;
        for (int i = 0; i < kept.count; i++) {
            if (from.hasSeen(i) && !to.has(i)) {
                to.take(i);
                fresh++;
            }
        }
        return fresh;
    }

    public int batch(int desk, boolean on) throws IndexOutOfBoundsException, IllegalStateException {
        needDesk(desk);
        Desk at = desks[desk];
        if (at.inBatch == on) {
            throw new IllegalStateException("the batch is so already");
        }
        if (on) {
            at.inBatch = true;
        } else {
            at.endBatch();
        }
        return at.moment;
    }

    public boolean same(int desk, int other) throws IndexOutOfBoundsException {
        needDesk(desk);
        needDesk(other);
        Desk one = desks[desk];
        Desk two = desks[other];
        for (int i = 0; i < kept.count; i++) {
            if (one.hasSeen(i) != two.hasSeen(i)) {
                return false;
            }
        }
        return true;
    }

    public int conflicts(int desk) throws IndexOutOfBoundsException {
        needDesk(desk);
        Desk at = desks[desk];
        int found = 0;
        for (int i = 0; i < kept.count; i++) {
            if (at.hasSeen(i) && beginsConflict(at, i)) {
                found++;
            }
        }
        return found;
    }

    public int settle(int of, int k) throws IndexOutOfBoundsException {
        needName(of);
        if (k < 0) {
            throw new IndexOutOfBoundsException("k is below 0");
        }
        int i = kept.findKth(of, k);
        if (i == NONE) {
            throw new IndexOutOfBoundsException("there are not so many tellings");
        }
        kept.settleOn(i);
        return kept.values[i];
    }

    public int last(int desk, int key, int what) throws IndexOutOfBoundsException, IllegalStateException {
        needDesk(desk);
        needKey(key);
        if (what < 0 || what > 4) {
            throw new IndexOutOfBoundsException("no such what");
        }
        Desk at = desks[desk];
        int i = findLast(at, key, at.moment);
        if (i == NONE) {
            throw new IllegalStateException("the key has no last telling");
        }
        switch (what) {
            case 0:
                return kept.values[i];
            case 1:
                return realTimeOf(i);
            case 2:
                return kept.teller(i);
            case 3:
                return kept.number(i);
            default:
                return kept.life(i);
        }
    }

    public int known(int desk, int key, int moment)
            throws IndexOutOfBoundsException, IllegalStateException, IllegalArgumentException {
        needDesk(desk);
        needKey(key);
        Desk at = desks[desk];
        if (moment < 0 || moment > at.moment) {
            throw new IllegalArgumentException("the desk has no such moment");
        }
        int i = findLast(at, key, moment);
        if (i == NONE) {
            throw new IllegalStateException("the key had no last telling then");
        }
        return kept.values[i];
    }

    public int many(int desk, int what) throws IndexOutOfBoundsException {
        needDesk(desk);
        if (what < 0 || what > 2) {
            throw new IndexOutOfBoundsException("no such what");
        }
        Desk at = desks[desk];
        switch (what) {
            case 0:
                return at.seen;
            case 1:
                return at.moment;
            default:
                return at.waiting;
        }
    }

    public int gap(int desk, int teller, int k) throws IndexOutOfBoundsException {
        needDesk(desk);
        needTeller(teller);
        if (k < 0) {
            throw new IndexOutOfBoundsException("k is below 0");
        }
        int greatest = hear(desks[desk], teller);
        int first = NONE;
        int left = k;
        for (int number = 0; number <= greatest && number < NUMBERS; number++) {
            if (!heard[number]) {
                first = first == NONE ? number : first;
            } else if (first != NONE) {
                if (left == 0) {
                    return 100 * first + number - 1;
                }
                left--;
                first = NONE;
            }
        }
        return -1;
    }

    private static void needTeller(int teller) {
        if (teller < 0 || teller >= TELLERS) {
            throw new IndexOutOfBoundsException("no such teller");
        }
    }

    private static void needDesk(int desk) {
        if (desk < 0 || desk >= DESKS) {
            throw new IndexOutOfBoundsException("no such desk");
        }
    }

    private static void needKey(int key) {
        if (key < 0 || key >= KEYS) {
            throw new IndexOutOfBoundsException("no such key");
        }
    }

    private static void needTime(int time) {
        if (time < 0 || time > GREATEST_TIME) {
            throw new IllegalArgumentException("no such time");
        }
    }

    private static void needTold(long told) {
        if (told >>> TOLD_BITS != 0) {
            throw new IllegalArgumentException("other bits are told");
        }
        needTime(timeIn((int) told));
        if (numberIn((int) told) >= NUMBERS) {
            throw new IllegalArgumentException("no such number");
        }
    }

    /** The life has just the bits of all lives, so it needs no look. */
    private static void needName(int of) {
        needTeller(of >> (LIFE_BITS + NUMBER_BITS));
        if (lowBits(of, NUMBER_BITS) >= NUMBERS) {
            throw new IndexOutOfBoundsException("no such number");
        }
    }

    private static int lowBits(int all, int bits) {
        return all & ((1 << bits) - 1);
    }

    private static int timeIn(int told) {
        return lowBits(told, TIME_BITS);
    }

    private static int keyIn(int told) {
        return lowBits(told >> TIME_BITS, KEY_BITS);
    }

    private static int numberIn(int told) {
        return lowBits(told >> (TIME_BITS + KEY_BITS), NUMBER_BITS);
    }

    /** Teller, life and number in one int, laid out as settle takes them. */
    private static int nameOf(int teller, int life, int number) {
        return (((teller << LIFE_BITS) | life) << NUMBER_BITS) | number;
    }

    private boolean hasRival(Desk at, int i) {
        for (int r = 0; r < kept.count; r++) {
            if (kept.areRivals(i, r) && at.has(r)) {
                return true;
            }
        }
        return false;
    }

    /** Whether i is the first seen one of a conflict: so each conflict is found just once. */
    private boolean beginsConflict(Desk at, int i) {
        if (kept.settled[i]) {
            return false;
        }
        boolean rivalled = false;
        for (int r = 0; r < kept.count; r++) {
            if (kept.areRivals(i, r) && at.hasSeen(r)) {
                if (r < i || kept.settled[r]) {
                    return false;
                }
                rivalled = true;
            }
        }
        return rivalled;
    }

    /** Whether i, which the desk had seen by that moment, counted there then. */
    private boolean countsBy(Desk at, int i, int moment) {
        if (kept.settled[i]) {
            return true;
        }
        for (int r = 0; r < kept.count; r++) {
            if (kept.areRivals(i, r) && (kept.settled[r] || at.hadSeen(r, moment))) {
                return false;
            }
        }
        return true;
    }

    private int findLast(Desk at, int key, int moment) {
        int best = NONE;
        for (int i = 0; i < kept.count; i++) {
            if (kept.key(i) == key && at.hadSeen(i, moment)
                    && (best == NONE || isLater(i, best)) && countsBy(at, i, moment)) {
                best = i;
            }
        }
        return best;
    }

    private boolean isLater(int i, int than) {
        int real = realTimeOf(i);
        int other = realTimeOf(than);
        return real != other ? real > other : kept.rank(i) > kept.rank(than);
    }

    private int realTimeOf(int i) {
        int teller = kept.teller(i);
        return teller < TELLERS ? tellers[teller].realTime(timeIn(kept.tolds[i])) : 0;
    }

    /** Fills the row of heard numbers of the teller's present life: the greatest one, or NONE. */
    private int hear(Desk at, int teller) {
        for (int number = 0; number < NUMBERS; number++) {
            heard[number] = false;
        }
        int life = tellers[teller].life;
        int greatest = NONE;
        for (int i = 0; i < kept.count; i++) {
            int number = kept.number(i);
            if (at.hasSeen(i) && kept.names[i] == nameOf(teller, life, number) && number < NUMBERS) {
                heard[number] = true;
                greatest = Math.max(greatest, number);
            }
        }
        return greatest;
    }

    /** A teller's life and the marks of its clock, by rising own times. */
    private static final class Teller {
        final int[] ownTimes = new int[MOST_MARKS];
        final int[] realTimes = new int[MOST_MARKS];
        int marks;
        int life;

        boolean canFollow(int own, int real) {
            return marks == 0 || (own > ownTimes[marks - 1] && real >= realTimes[marks - 1]);
        }

        void addMark(int own, int real) {
            ownTimes[marks] = own;
            realTimes[marks] = real;
            marks++;
        }

        int realTime(int own) {
            if (marks == 0) {
                return own;
            }
            int passed = marksUpTo(own);
            if (passed > 0 && passed < marks) {
                return realBetween(passed - 1, own);
            }
            int nearest = passed == 0 ? 0 : marks - 1;
            return own + (realTimes[nearest] - ownTimes[nearest]);
        }

        int marksUpTo(int own) {
            int passed = 0;
            while (passed < marks && ownTimes[passed] <= own) {
                passed++;
            }
            return passed;
        }

        /** The product can pass an int: 1,000,000 times 1,000,000. */
        int realBetween(int a, int own) {
            int span = ownTimes[a + 1] - ownTimes[a];
            if (span <= 0) {
                return realTimes[a];
            }
            long rise = realTimes[a + 1] - realTimes[a];
            return realTimes[a] + (int) (rise * (own - ownTimes[a]) / span);
        }
    }

    /** The different tellings of all desks, in the order in which they first came to some desk. */
    private static final class Tellings {
        final int[] names = new int[MOST_TELLINGS];
        final int[] tolds = new int[MOST_TELLINGS];
        final int[] values = new int[MOST_TELLINGS];
        final boolean[] settled = new boolean[MOST_TELLINGS];
        int count;

        int find(int name, int told, int value) {
            for (int i = 0; i < count; i++) {
                if (names[i] == name && tolds[i] == told && values[i] == value) {
                    return i;
                }
            }
            return NONE;
        }

        int findKth(int name, int k) {
            int left = k;
            for (int i = 0; i < count; i++) {
                if (names[i] == name) {
                    if (left == 0) {
                        return i;
                    }
                    left--;
                }
            }
            return NONE;
        }

        /** Only called while there is room. */
        int add(int name, int told, int value) {
            int i = count;
            names[i] = name;
            tolds[i] = told;
            values[i] = value;
            count++;
            return i;
        }

        void settleOn(int i) {
            for (int r = 0; r < count; r++) {
                if (names[r] == names[i]) {
                    settled[r] = r == i;
                }
            }
        }

        /** No two kept tellings are alike, so those of one name differ in what they say. */
        boolean areRivals(int i, int r) {
            return i != r && names[i] == names[r];
        }

        int teller(int i) {
            return names[i] >> (LIFE_BITS + NUMBER_BITS);
        }

        int life(int i) {
            return lowBits(names[i] >> NUMBER_BITS, LIFE_BITS);
        }

        int number(int i) {
            return lowBits(names[i], NUMBER_BITS);
        }

        int key(int i) {
            return keyIn(tolds[i]);
        }

        /** Life, teller and number in one int: the greater is the later at one real time. */
        int rank(int i) {
            return (((life(i) << TELLER_BITS) | teller(i)) << NUMBER_BITS) | number(i);
        }
    }

    /** What of the kept tellings one desk has, and since which of its moments. */
    private static final class Desk {
        static final int NOT_HERE = 0;
        static final int WAITING = -1;

        /** By a telling's place: NOT_HERE, WAITING for the batch's end, or the moment it was seen. */
        final int[] moments = new int[MOST_TELLINGS];
        int moment;
        int seen;
        int waiting;
        boolean inBatch;

        boolean has(int i) {
            return moments[i] != NOT_HERE;
        }

        boolean hasSeen(int i) {
            return moments[i] > 0;
        }

        boolean hadSeen(int i, int by) {
            return moments[i] > 0 && moments[i] <= by;
        }

        /** Only called for a telling that is not here yet. */
        void take(int i) {
            if (inBatch) {
                moments[i] = WAITING;
                waiting++;
            } else {
                moment++;
                moments[i] = moment;
                seen++;
            }
        }

        void endBatch() {
            inBatch = false;
            if (waiting == 0) {
                return;
            }
            moment++;
            for (int i = 0; i < MOST_TELLINGS; i++) {
                if (moments[i] == WAITING) {
                    moments[i] = moment;
                }
            }
            seen += waiting;
            waiting = 0;
        }
    }
}
