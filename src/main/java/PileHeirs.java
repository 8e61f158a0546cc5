/**
 * A yard of piles of timbers. Each kind of pile is a class upon the class of the kind below it, so
 * that super is the document's BELOW, and a call by name is the ACT of the pile's own kind.
 */
public final class PileHeirs {
    public static final int UNKNOWN = -101, OUTSIDE = -102, STATE = -103, ROOM = -104, NONE = -1;

    private static final int MOST_TIMBERS = 60;
    private static final int MOST_PILES = 12;
    private static final int MOST_CAP = 12;
    private static final int MOST_LIMIT = 20000;
    private static final int MOST_SIZE = 1000;
    private static final int MOST_TRACE = 200;

    private static final int PLAIN = 0;
    private static final int MARKED = 1;
    private static final int SORTED = 2;
    private static final int STRICT = 3;
    private static final int DRYING = 4;
    private static final int TWOFOLD = 5;
    private static final int OPEN = 6;
    private static final int LEAN = 7;

    private static final int PUT = 0;
    private static final int TAKE = 1;
    private static final int LOAD = 2;
    private static final int SEARCH = 3;
    private static final int FREE = 4;

    // What PUT answers inside; HEAVY becomes an exception at the face alone.
    private static final int LIES_NOT = 0;
    private static final int LIES = 1;
    private static final int HEAVY = 2;

    // What TAKE answers inside beside a timber and NONE; an exception at the face alone.
    private static final int NOTHING = -2;

    private final Timbers timbers;
    private final Trace done;
    private final Plain[] piles;
    private int pileCount;

    public PileHeirs() {
        timbers = new Timbers();
        done = new Trace();
        piles = new Plain[MOST_PILES];
    }

    public int timber(int length, int weight, boolean wet) {
        if (isOutside(length, 1, MOST_SIZE) || isOutside(weight, 1, MOST_SIZE)) {
            return OUTSIDE;
        }
        return timbers.add(length, weight, wet);
    }

    public int pile(int kind, int cap, int limit) {
        if (isOutside(kind, PLAIN, LEAN) || isOutside(cap, 1, MOST_CAP)
                || isOutside(limit, 0, MOST_LIMIT)) {
            return OUTSIDE;
        }
        if (pileCount < 0 || pileCount >= piles.length) {
            return ROOM;
        }
        int number = pileCount;
        piles[number] = newPile(kind, number, cap, limit);
        pileCount++;
        return number;
    }

    public int put(int pile, int timber) throws UnsupportedOperationException {
        Plain target = pileOf(pile);
        if (target == null || !timbers.has(timber)) {
            return UNKNOWN;
        }
        if (timbers.pileOf(timber) != NONE) {
            return STATE;
        }
        int answer = target.putAct(timber);
        if (answer == HEAVY) {
            throw new UnsupportedOperationException("HEAVY");
        }
        return answer;
    }

    public int take(int pile) throws NullPointerException {
        Plain source = pileOf(pile);
        if (source == null) {
            return UNKNOWN;
        }
        int answer = source.takeAct();
        if (answer == NOTHING) {
            throw new NullPointerException("NOTHING");
        }
        return answer;
    }

    public int load(int pile) {
        Plain asked = pileOf(pile);
        return asked == null ? UNKNOWN : asked.loadAct();
    }

    public int search(int pile, int length) {
        Plain asked = pileOf(pile);
        if (asked == null) {
            return UNKNOWN;
        }
        if (isOutside(length, 1, MOST_SIZE)) {
            return OUTSIDE;
        }
        return asked.searchAct(length);
    }

    public int free(int pile) {
        Plain asked = pileOf(pile);
        return asked == null ? UNKNOWN : asked.freeAct();
    }

    public int full(int pile) {
        Plain asked = pileOf(pile);
        if (asked == null) {
            return UNKNOWN;
        }
        return asked.isFull() ? 1 : 0;
    }

    public int move(int from, int to) {
        Plain source = pileOf(from);
        Plain target = pileOf(to);
        if (source == null || target == null) {
            return UNKNOWN;
        }
        int timber = source.takeAct();
        if (timber == NONE || timber == NOTHING) {
            return NONE;
        }
        return target.putAct(timber) == LIES ? timber : -2 - timber;
    }

    public int at(int pile, int i) {
        Plain asked = pileOf(pile);
        if (asked == null) {
            return UNKNOWN;
        }
        int timber = asked.timberAt(i);
        return timber == NONE ? UNKNOWN : timber;
    }

    public int of(int timber, int what) {
        if (!timbers.has(timber)) {
            return UNKNOWN;
        }
        switch (what) {
            case 0:
                return timbers.lengthOf(timber);
            case 1:
                return timbers.weightOf(timber);
            case 2:
                return timbers.isWet(timber) ? 1 : 0;
            case 3:
                return timbers.pileOf(timber);
            default:
                return OUTSIDE;
        }
    }

    public int trace(int i) {
        return done.latest(i);
    }

    public int count(int what) {
        switch (what) {
            case 0:
                return timbers.howMany();
            case 1:
                return pileCount;
            case 2:
                return done.rulesEver();
            case 3:
                return done.heavyEver();
            case 4:
                return done.nothingEver();
            default:
                return OUTSIDE;
        }
    }

    private static boolean isOutside(int value, int least, int most) {
        return value < least || value > most;
    }

    private Plain pileOf(int number) {
        if (number < 0 || number >= pileCount || number >= piles.length) {
            return null;
        }
        return piles[number];
    }

    private Plain newPile(int kind, int number, int cap, int limit) {
        switch (kind) {
            case MARKED:
                return new Marked(timbers, done, number, cap, limit);
            case SORTED:
                return new Sorted(timbers, done, number, cap, limit);
            case STRICT:
                return new Strict(timbers, done, number, cap, limit);
            case DRYING:
                return new Drying(timbers, done, number, cap, limit);
            case TWOFOLD:
                return new Twofold(timbers, done, number, cap, limit);
            case OPEN:
                return new Open(timbers, done, number, cap, limit);
            case LEAN:
                return new Lean(timbers, done, number, cap, limit);
            default:
                return new Plain(timbers, done, number, cap, limit);
        }
    }

    /** The timbers of the yard, known by their numbers. */
    private static final class Timbers {
        private final int[] lengths;
        private final int[] weights;
        private final boolean[] wets;
        private final int[] pileNumbers;
        private int size;

        Timbers() {
            lengths = new int[MOST_TIMBERS];
            weights = new int[MOST_TIMBERS];
            wets = new boolean[MOST_TIMBERS];
            pileNumbers = new int[MOST_TIMBERS];
        }

        int add(int length, int weight, boolean wet) {
            if (size < 0 || size >= MOST_TIMBERS) {
                return ROOM;
            }
            int number = size;
            lengths[number] = length;
            weights[number] = weight;
            wets[number] = wet;
            pileNumbers[number] = NONE;
            size++;
            return number;
        }

        boolean has(int timber) {
            return timber >= 0 && timber < size && timber < MOST_TIMBERS;
        }

        int howMany() {
            return size;
        }

        int lengthOf(int timber) {
            return has(timber) ? lengths[timber] : 0;
        }

        int weightOf(int timber) {
            return has(timber) ? weights[timber] : 0;
        }

        boolean isWet(int timber) {
            return has(timber) && wets[timber];
        }

        int pileOf(int timber) {
            return has(timber) ? pileNumbers[timber] : NONE;
        }

        void setWet(int timber, boolean wet) {
            if (has(timber)) {
                wets[timber] = wet;
            }
        }

        void lighten(int timber) {
            if (has(timber)) {
                weights[timber] = Math.max(1, weights[timber] - 1);
            }
        }

        void setPile(int timber, int pileNumber) {
            if (has(timber)) {
                pileNumbers[timber] = pileNumber;
            }
        }
    }

    /** THE TRACE, the latest rules in a ring, and how often things were done ever. */
    private static final class Trace {
        private final int[] ring;
        private int next;
        private int kept;
        private int rules;
        private int heavies;
        private int nothings;

        Trace() {
            ring = new int[MOST_TRACE];
        }

        void begin(int act, int kind) {
            // next is no remainder of rules, which could wrap around below 0 some day
            if (next < 0 || next >= ring.length) {
                next = 0;
            }
            ring[next] = 10 * act + kind;
            next++;
            kept = Math.min(kept + 1, ring.length);
            rules++;
        }

        int latest(int i) {
            if (i < 0 || i >= kept) {
                return UNKNOWN;
            }
            int place = next - 1 - i;
            if (place < 0) {
                place += ring.length;
            }
            return place >= 0 && place < ring.length ? ring[place] : UNKNOWN;
        }

        void countHeavy() {
            heavies++;
        }

        void countNothing() {
            nothings++;
        }

        int rulesEver() {
            return rules;
        }

        int heavyEver() {
            return heavies;
        }

        int nothingEver() {
            return nothings;
        }
    }

    /** Kind 0: it tells a rule for every act, so that each kind upon it finds one. */
    private static class Plain {
        final Timbers timbers;
        final Trace done;
        final int number;
        final int cap;
        final int limit;
        private final int[] row;
        private int height;

        Plain(Timbers timbers, Trace done, int number, int cap, int limit) {
            this.timbers = timbers;
            this.done = done;
            this.number = number;
            this.cap = cap;
            this.limit = limit;
            row = new int[MOST_CAP];
        }

        int putAct(int timber) {
            done.begin(PUT, PLAIN);
            if (height < 0 || height >= cap || height >= row.length) {
                return LIES_NOT;
            }
            row[height] = timber;
            height++;
            timbers.setPile(timber, number);
            return LIES;
        }

        int takeAct() {
            done.begin(TAKE, PLAIN);
            if (height < 1 || height > row.length) {
                return NONE;
            }
            height--;
            int timber = row[height];
            timbers.setPile(timber, NONE);
            return timber;
        }

        int loadAct() {
            done.begin(LOAD, PLAIN);
            int sum = 0;
            for (int place = 0; place < height; place++) {
                sum += timbers.weightOf(timberAt(place));
            }
            return sum;
        }

        int searchAct(int length) {
            done.begin(SEARCH, PLAIN);
            for (int place = 0; place < height; place++) {
                if (timbers.lengthOf(timberAt(place)) >= length) {
                    return place;
                }
            }
            return NONE;
        }

        int freeAct() {
            done.begin(FREE, PLAIN);
            return cap - height;
        }

        /** FULL of a plain pile looks at the row itself, and leaves no rule in the trace. */
        boolean isFull() {
            return height >= cap;
        }

        final int howMany() {
            return height;
        }

        final int timberAt(int place) {
            return place >= 0 && place < height && place < row.length ? row[place] : NONE;
        }

        final void swapWithUnder(int place) {
            if (place >= 1 && place < height && place < row.length) {
                int under = row[place - 1];
                row[place - 1] = row[place];
                row[place] = under;
            }
        }
    }

    /** Kind 1: it tells no rule; but from here on FULL asks FREE. */
    private static class Marked extends Plain {
        Marked(Timbers timbers, Trace done, int number, int cap, int limit) {
            super(timbers, done, number, cap, limit);
        }

        @Override
        boolean isFull() {
            return freeAct() == 0;
        }
    }

    /** Kind 2: the longer ones lie lower. */
    private static class Sorted extends Marked {
        Sorted(Timbers timbers, Trace done, int number, int cap, int limit) {
            super(timbers, done, number, cap, limit);
        }

        @Override
        int putAct(int timber) {
            done.begin(PUT, SORTED);
            int answer = super.putAct(timber);
            if (answer == LIES) {
                sinkTopmost(timbers.lengthOf(timber));
            }
            return answer;
        }

        private void sinkTopmost(int length) {
            for (int place = howMany() - 1; place > 0; place--) {
                if (timbers.lengthOf(timberAt(place - 1)) >= length) {
                    return;
                }
                swapWithUnder(place);
            }
        }
    }

    /** Kind 3: it refuses what is too heavy. */
    private static class Strict extends Marked {
        Strict(Timbers timbers, Trace done, int number, int cap, int limit) {
            super(timbers, done, number, cap, limit);
        }

        @Override
        int putAct(int timber) {
            done.begin(PUT, STRICT);
            if (loadAct() + timbers.weightOf(timber) > limit) {
                done.countHeavy();
                return HEAVY;
            }
            return super.putAct(timber);
        }

        @Override
        int freeAct() {
            done.begin(FREE, STRICT);
            return loadAct() >= limit ? 0 : super.freeAct();
        }
    }

    /** Kind 4: a wet timber is dried and laid anew before one comes. */
    private static class Drying extends Sorted {
        Drying(Timbers timbers, Trace done, int number, int cap, int limit) {
            super(timbers, done, number, cap, limit);
        }

        @Override
        int takeAct() {
            done.begin(TAKE, DRYING);
            int timber = super.takeAct();
            if (timber == NONE) {
                done.countNothing();
                return NOTHING;
            }
            if (!timbers.isWet(timber)) {
                return timber;
            }
            timbers.setWet(timber, false);
            putAct(timber);
            return super.takeAct();
        }

        @Override
        int searchAct(int length) {
            done.begin(SEARCH, DRYING);
            int place = super.searchAct(length);
            return place == NONE || timbers.isWet(timberAt(place)) ? NONE : place;
        }
    }

    /** Kind 5: it counts its load twice. */
    private static class Twofold extends Strict {
        Twofold(Timbers timbers, Trace done, int number, int cap, int limit) {
            super(timbers, done, number, cap, limit);
        }

        @Override
        int loadAct() {
            done.begin(LOAD, TWOFOLD);
            return 2 * super.loadAct();
        }

        @Override
        int searchAct(int length) {
            done.begin(SEARCH, TWOFOLD);
            int place = super.searchAct(length);
            return place == NONE ? super.searchAct(length / 2) : place;
        }
    }

    /** Kind 6: it lies open to the rain. */
    private static final class Open extends Drying {
        private static final int WATER = 10;

        Open(Timbers timbers, Trace done, int number, int cap, int limit) {
            super(timbers, done, number, cap, limit);
        }

        @Override
        int putAct(int timber) {
            done.begin(PUT, OPEN);
            if (timbers.weightOf(timber) % 2 != 0) {
                timbers.setWet(timber, true);
            }
            return super.putAct(timber);
        }

        @Override
        int loadAct() {
            done.begin(LOAD, OPEN);
            int sum = super.loadAct();
            for (int place = 0; place < howMany(); place++) {
                if (timbers.isWet(timberAt(place))) {
                    sum += WATER;
                }
            }
            return sum;
        }
    }

    /** Kind 7: it wears off the timbers that are taken, and keeps a place free. */
    private static final class Lean extends Twofold {
        Lean(Timbers timbers, Trace done, int number, int cap, int limit) {
            super(timbers, done, number, cap, limit);
        }

        @Override
        int takeAct() {
            done.begin(TAKE, LEAN);
            int timber = super.takeAct();
            if (timber == NONE) {
                done.countNothing();
                return NOTHING;
            }
            timbers.lighten(timber);
            return timber;
        }

        @Override
        int freeAct() {
            done.begin(FREE, LEAN);
            return Math.max(0, super.freeAct() - 1);
        }
    }
}
