import java.util.function.IntSupplier;

/**
 * One object under test. Exceptions become numbers, so that a call can be compared with what is due
 * whichever way it ends; and calls are counted, since nothing is promised after the 512th.
 */
final class Yard {
    static final int CALLS = 512;
    static final int HEAVY = -1001;
    static final int NOTHING = -1002;
    static final int STRAY = -1003;

    private final PileHeirs piles = new PileHeirs();
    private int calls;

    private int answer(IntSupplier call) {
        calls++;
        if (calls > CALLS) {
            throw new IllegalStateException("the test itself is wrong: call " + calls + " on one object");
        }
        try {
            return call.getAsInt();
        } catch (RuntimeException e) {
            return codeOf(e);
        }
    }

    /** Only what the face itself throws is the document's; the machine's own would come from elsewhere. */
    private static int codeOf(RuntimeException e) {
        StackTraceElement[] frames = e.getStackTrace();
        boolean atTheFace = frames.length > 0 && frames[0].getClassName().equals("PileHeirs");
        if (atTheFace && e.getClass() == UnsupportedOperationException.class
                && frames[0].getMethodName().equals("put")) {
            return HEAVY;
        }
        if (atTheFace && e.getClass() == NullPointerException.class
                && frames[0].getMethodName().equals("take")) {
            return NOTHING;
        }
        e.printStackTrace(System.out);
        return STRAY;
    }

    int callsLeft() {
        return CALLS - calls;
    }

    int timber(int length, int weight, boolean wet) {
        return answer(() -> piles.timber(length, weight, wet));
    }

    int pile(int kind, int cap, int limit) {
        return answer(() -> piles.pile(kind, cap, limit));
    }

    int put(int pile, int timber) {
        return answer(() -> piles.put(pile, timber));
    }

    int take(int pile) {
        return answer(() -> piles.take(pile));
    }

    int load(int pile) {
        return answer(() -> piles.load(pile));
    }

    int search(int pile, int length) {
        return answer(() -> piles.search(pile, length));
    }

    int free(int pile) {
        return answer(() -> piles.free(pile));
    }

    int full(int pile) {
        return answer(() -> piles.full(pile));
    }

    int move(int from, int to) {
        return answer(() -> piles.move(from, to));
    }

    int at(int pile, int i) {
        return answer(() -> piles.at(pile, i));
    }

    int of(int timber, int what) {
        return answer(() -> piles.of(timber, what));
    }

    int trace(int i) {
        return answer(() -> piles.trace(i));
    }

    int count(int what) {
        return answer(() -> piles.count(what));
    }
}
