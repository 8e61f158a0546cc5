import java.util.ArrayList;
import java.util.List;

/**
 * Each sentence of the document's 'Terms' that names a boundary case: the last value that is allowed and
 * the first that is not, the empty and the full pile, the end of an act.
 */
public final class TermsTest {
    private static final int UNKNOWN = PileHeirs.UNKNOWN, OUTSIDE = PileHeirs.OUTSIDE, ROOM = PileHeirs.ROOM,
            NONE = PileHeirs.NONE;
    private static final int PLAIN = 0, MARKED = 1, SORTED = 2, STRICT = 3, DRYING = 4, TWOFOLD = 5,
            OPEN = 6, LEAN = 7;
    private static final int MOST_LIMIT = 20000;
    private static final int[] TOO_SMALL = {0, -1, Integer.MIN_VALUE};
    private static final Due DUE = new Due();

    public static void main(String[] args) {
        timbersAndTheirBounds();
        pilesAndTheirBounds();
        kinds();
        put();
        take();
        load();
        search();
        free();
        full();
        trace();
        DUE.end("TermsTest");
    }

    private static void due(String call, long got, long want) {
        DUE.same(call, got, want);
    }

    /** A yard with one pile, number 0. */
    private static Yard with(int kind, int cap, int limit) {
        Yard x = new Yard();
        due("pile(" + kind + ", " + cap + ", " + limit + ")", x.pile(kind, cap, limit), 0);
        return x;
    }

    /** A new timber, laid on pile 0. */
    private static void lay(Yard x, int length, int weight, boolean wet) {
        int timber = x.timber(length, weight, wet);
        due("put of " + length + " " + weight + " " + wet, x.put(0, timber), 1);
    }

    private static void layDry(Yard x, int howMany, int length, int weight) {
        for (int i = 0; i < howMany; i++) {
            lay(x, length, weight, false);
        }
    }

    /** A new timber that pile 0 doesn't take: the answer of PUT. */
    private static int putNew(Yard x, int length, int weight, boolean wet) {
        return x.put(0, x.timber(length, weight, wet));
    }

    // ---- timbers

    private static void timbersAndTheirBounds() {
        DUE.sentence("TIMBERS: 60 at most");
        sixtyTimbers();
        DUE.sentence("TIMBERS: numbered from 0 on");
        timbersFromZero();
        DUE.sentence("LENGTH: 1 .. 1000");
        lengths();
        DUE.sentence("WEIGHT: 1 .. 1000");
        weights();
        DUE.sentence("TIMBERS lie on the ground at first");
        onTheGroundAtFirst();
    }

    private static void sixtyTimbers() {
        Yard x = new Yard();
        for (int i = 0; i < 59; i++) {
            x.timber(1, 1, false);
        }
        due("the 60th", x.timber(1, 1, false), 59);
        due("the 61st", x.timber(1, 1, false), ROOM);
        due("how many", x.count(0), 60);
        due("the 60th is there", x.of(59, 0), 1);
        due("the 61st is not", x.of(60, 0), UNKNOWN);
    }

    private static void timbersFromZero() {
        Yard x = new Yard();
        due("the first", x.timber(5, 5, false), 0);
        due("a refused one", x.timber(0, 5, false), OUTSIDE);
        due("the next takes the next number", x.timber(6, 6, false), 1);
        due("the first keeps its number", x.of(0, 0), 5);
        due("the next has its own", x.of(1, 0), 6);
    }

    private static void lengths() {
        Yard x = new Yard();
        due("1", x.timber(1, 500, false), 0);
        due("1000", x.timber(1000, 500, false), 1);
        due("1 is kept", x.of(0, 0), 1);
        due("1000 is kept", x.of(1, 0), 1000);
        for (int small : TOO_SMALL) {
            due("length " + small, x.timber(small, 500, false), OUTSIDE);
        }
        due("length 1001", x.timber(1001, 500, false), OUTSIDE);
        due("length of the largest int", x.timber(Integer.MAX_VALUE, 500, false), OUTSIDE);
        due("none of the refused is there", x.count(0), 2);
    }

    private static void weights() {
        Yard x = new Yard();
        due("1", x.timber(500, 1, false), 0);
        due("1000", x.timber(500, 1000, false), 1);
        due("1 is kept", x.of(0, 1), 1);
        due("1000 is kept", x.of(1, 1), 1000);
        for (int small : TOO_SMALL) {
            due("weight " + small, x.timber(500, small, false), OUTSIDE);
        }
        due("weight 1001", x.timber(500, 1001, false), OUTSIDE);
        due("weight of the largest int", x.timber(500, Integer.MAX_VALUE, false), OUTSIDE);
        due("none of the refused is there", x.count(0), 2);
    }

    private static void onTheGroundAtFirst() {
        Yard x = with(PLAIN, 1, 0);
        x.timber(1, 1, true);
        due("of(0, 3)", x.of(0, 3), NONE);
        DUE.row("the pile has none", x, 0);
        due("so it can be laid", x.put(0, 0), 1);
        due("then it lies in pile 0", x.of(0, 3), 0);
    }

    // ---- piles

    private static void pilesAndTheirBounds() {
        DUE.sentence("PILES: 12 at most");
        twelvePiles();
        DUE.sentence("PILES: numbered from 0 on");
        pilesFromZero();
        DUE.sentence("KIND: 0 .. 7");
        kindBounds();
        DUE.sentence("CAP: 1 .. 12");
        caps();
        DUE.sentence("LIMIT: 0 .. 20000");
        limits();
        DUE.sentence("a row of TIMBERS, the lowest first");
        lowestFirst();
    }

    private static void twelvePiles() {
        Yard x = new Yard();
        for (int i = 0; i < 11; i++) {
            x.pile(PLAIN, 1, 0);
        }
        due("the 12th", x.pile(PLAIN, 1, 0), 11);
        due("the 13th", x.pile(PLAIN, 1, 0), ROOM);
        due("how many", x.count(1), 12);
        due("the 12th is there", x.load(11), 0);
        due("the 13th is not", x.load(12), UNKNOWN);
    }

    private static void pilesFromZero() {
        Yard x = new Yard();
        due("the first", x.pile(PLAIN, 3, 0), 0);
        due("a refused one", x.pile(PLAIN, 0, 0), OUTSIDE);
        due("the next takes the next number", x.pile(PLAIN, 5, 0), 1);
        due("the first has its own cap", x.free(0), 3);
        due("the next has its own cap", x.free(1), 5);
    }

    private static void kindBounds() {
        Yard x = new Yard();
        due("kind 0", x.pile(0, 1, 0), 0);
        due("kind 7", x.pile(7, 1, 0), 1);
        int[] outside = {-1, 8, Integer.MIN_VALUE, Integer.MAX_VALUE};
        for (int kind : outside) {
            due("kind " + kind, x.pile(kind, 1, 0), OUTSIDE);
        }
        due("none of the refused is there", x.count(1), 2);
    }

    private static void caps() {
        Yard x = new Yard();
        due("cap 1", x.pile(PLAIN, 1, 0), 0);
        due("cap 12", x.pile(PLAIN, 12, 0), 1);
        due("cap 1 is kept", x.free(0), 1);
        due("cap 12 is kept", x.free(1), 12);
        for (int small : TOO_SMALL) {
            due("cap " + small, x.pile(PLAIN, small, 0), OUTSIDE);
        }
        due("cap 13", x.pile(PLAIN, 13, 0), OUTSIDE);
        due("cap of the largest int", x.pile(PLAIN, Integer.MAX_VALUE, 0), OUTSIDE);
        due("none of the refused is there", x.count(1), 2);
    }

    private static void limits() {
        Yard x = new Yard();
        due("limit 0", x.pile(STRICT, 1, 0), 0);
        due("limit 20000", x.pile(STRICT, 1, MOST_LIMIT), 1);
        x.timber(1, 1, false);
        due("limit 0 is kept", x.put(0, 0), Yard.HEAVY);
        due("limit 20000 is kept", x.put(1, 0), 1);
        int[] outside = {-1, MOST_LIMIT + 1, Integer.MIN_VALUE, Integer.MAX_VALUE};
        for (int limit : outside) {
            due("limit " + limit, x.pile(STRICT, 1, limit), OUTSIDE);
        }
        due("none of the refused is there", x.count(1), 2);
        due("the bounds hold for a kind without LIMIT too", x.pile(PLAIN, 1, MOST_LIMIT + 1), OUTSIDE);
    }

    private static void lowestFirst() {
        Yard x = with(PLAIN, 12, 0);
        layDry(x, 12, 5, 5);
        DUE.row("twelve laid in turn", x, 0, 0, 1, 2, 3, 4, 5, 6, 7, 8, 9, 10, 11);
    }

    // ---- kinds

    private static void kinds() {
        DUE.sentence("an ACT is done by the RULE that its KIND tells, or by that of the KIND below");
        int[][][] rules = {
            {{0}, {10}, {20}, {30}, {40}},
            {{0}, {10}, {20}, {30}, {40}},
            {{2, 0}, {10}, {20}, {30}, {40}},
            {{3, 20, 0}, {10}, {20}, {30}, {43, 20, 40}},
            {{2, 0}, {14, 10}, {20}, {34, 30}, {40}},
            {{3, 25, 20, 0}, {10}, {25, 20}, {35, 30}, {43, 25, 20, 40}},
            {{6, 2, 0}, {14, 10}, {26, 20}, {34, 30}, {40}},
            {{3, 25, 20, 0}, {17, 10}, {25, 20}, {35, 30}, {47, 43, 25, 20, 40}},
        };
        for (int kind = PLAIN; kind <= LEAN; kind++) {
            rulesOfKind(kind, rules[kind]);
        }
    }

    private static void rulesOfKind(int kind, int[][] rules) {
        Yard x = with(kind, 3, 100);
        x.timber(10, 2, false);
        x.put(0, 0);
        DUE.done("kind " + kind + " PUT", x, 0, rules[0]);
        int before = x.count(2);
        x.load(0);
        DUE.done("kind " + kind + " LOAD", x, before, rules[2]);
        before = x.count(2);
        x.search(0, 10);
        DUE.done("kind " + kind + " SEARCH", x, before, rules[3]);
        before = x.count(2);
        x.free(0);
        DUE.done("kind " + kind + " FREE", x, before, rules[4]);
        before = x.count(2);
        x.take(0);
        DUE.done("kind " + kind + " TAKE", x, before, rules[1]);
    }

    // ---- PUT

    private static void put() {
        DUE.sentence("PUT PLAIN: not, if CAP TIMBERS are there; else it is the topmost one");
        for (int kind = PLAIN; kind <= LEAN; kind++) {
            for (int cap = 1; cap <= 12; cap++) {
                putUpToCap(kind, cap);
            }
        }
        DUE.sentence("PUT SORTED: BELOW; if so, it changes places with the one under it, as long as that is shorter");
        int[] sorting = {SORTED, DRYING, OPEN};
        for (int kind : sorting) {
            putSorted(kind);
            putSortedToTheBottom(kind);
            putSortedFull(kind);
        }
        int[] others = {PLAIN, MARKED, STRICT, TWOFOLD, LEAN};
        for (int kind : others) {
            putUnsorted(kind);
        }
        DUE.sentence("PUT STRICT: HEAVY, if LOAD and its WEIGHT together are above LIMIT; else BELOW");
        putStrictEmpty();
        putStrictAtLimit();
        putTwofoldAtLimit();
        putAtTheLargestLimit();
        putWithoutLimit();
        DUE.sentence("PUT STRICT: HEAVY ahead of a full pile, and a full pile at LIMIT is not HEAVY");
        putStrictFull();
        DUE.sentence("PUT OPEN: it is WET, if its WEIGHT is odd (else it stays as it is)");
        int[] weights = {1, 2, 3, 998, 999, 1000};
        for (int weight : weights) {
            putOpen(weight, false);
            putOpen(weight, true);
        }
        DUE.sentence("PUT OPEN: WET ahead of BELOW, so on a full pile too");
        putOpenFull();
    }

    private static void putUpToCap(int kind, int cap) {
        Yard x = with(kind, cap, MOST_LIMIT);
        int[] row = new int[cap];
        for (int i = 0; i < cap; i++) {
            lay(x, 5, 2, false);
            row[i] = i;
        }
        String name = "kind " + kind + ", cap " + cap;
        due(name + ": one more", putNew(x, 5, 2, false), 0);
        due(name + ": it stays on the ground", x.of(cap, 3), NONE);
        DUE.row(name, x, 0, row);
        due(name + ": no HEAVY", x.count(3), 0);
        x.take(0);
        due(name + ": there is room again", x.put(0, cap), 1);
        due(name + ": it is the topmost one", x.at(0, cap - 1), cap);
    }

    private static void putSorted(int kind) {
        Yard x = with(kind, 12, 0);
        lay(x, 500, 2, false);
        DUE.row("kind " + kind + ", on an empty pile", x, 0, 0);
        lay(x, 500, 2, false);
        DUE.row("kind " + kind + ", equal stays above", x, 0, 0, 1);
        lay(x, 499, 2, false);
        DUE.row("kind " + kind + ", 1 shorter stays above", x, 0, 0, 1, 2);
        lay(x, 501, 2, false);
        DUE.row("kind " + kind + ", 1 longer goes below", x, 0, 3, 0, 1, 2);
        lay(x, 500, 2, false);
        DUE.row("kind " + kind + ", above its equals", x, 0, 3, 0, 1, 4, 2);
    }

    private static void putSortedToTheBottom(int kind) {
        Yard x = with(kind, 12, 0);
        layDry(x, 11, 999, 2);
        lay(x, 1000, 2, false);
        DUE.row("kind " + kind + ", the 12th to place 0", x, 0, 11, 0, 1, 2, 3, 4, 5, 6, 7, 8, 9, 10);
        Yard y = with(kind, 2, 0);
        lay(y, 1, 2, false);
        lay(y, 1000, 2, false);
        DUE.row("kind " + kind + ", the 2nd to place 0", y, 0, 1, 0);
    }

    private static void putSortedFull(int kind) {
        Yard x = with(kind, 2, 0);
        lay(x, 7, 2, false);
        lay(x, 6, 2, false);
        due("kind " + kind + ", full", putNew(x, 1000, 2, false), 0);
        DUE.row("kind " + kind + ", full: no change of places", x, 0, 0, 1);
    }

    private static void putUnsorted(int kind) {
        Yard x = with(kind, 3, MOST_LIMIT);
        lay(x, 1, 2, false);
        lay(x, 1000, 2, false);
        lay(x, 500, 2, false);
        DUE.row("kind " + kind + " doesn't sort", x, 0, 0, 1, 2);
    }

    private static void putStrictEmpty() {
        int[] kinds = {STRICT, TWOFOLD, LEAN};
        for (int kind : kinds) {
            Yard x = with(kind, 3, 9);
            due("kind " + kind + ", empty, 10 of 9", putNew(x, 5, 10, false), Yard.HEAVY);
            due("kind " + kind + ", empty, 9 of 9", putNew(x, 5, 9, false), 1);
            Yard zero = with(kind, 3, 0);
            due("kind " + kind + ", empty, 1 of 0", putNew(zero, 5, 1, false), Yard.HEAVY);
            DUE.row("kind " + kind + ", HEAVY: the pile stays empty", zero, 0);
            Yard most = with(kind, 3, 1000);
            due("kind " + kind + ", empty, 1000 of 1000", putNew(most, 5, 1000, false), 1);
        }
    }

    private static void putStrictAtLimit() {
        Yard x = with(STRICT, 5, 10);
        lay(x, 5, 6, false);
        due("6 + 5 of 10", putNew(x, 5, 5, false), Yard.HEAVY);
        due("6 + 4 of 10", putNew(x, 5, 4, false), 1);
        due("10 + 1 of 10", putNew(x, 5, 1, false), Yard.HEAVY);
        DUE.row("only what fits lies there", x, 0, 0, 2);
        due("HEAVY twice", x.count(3), 2);
    }

    private static void putTwofoldAtLimit() {
        for (int kind = TWOFOLD; kind <= LEAN; kind += 2) {
            Yard x = with(kind, 5, 10);
            lay(x, 5, 3, false);
            due("kind " + kind + ", 2 * 3 + 5 of 10", putNew(x, 5, 5, false), Yard.HEAVY);
            due("kind " + kind + ", 2 * 3 + 4 of 10", putNew(x, 5, 4, false), 1);
            due("kind " + kind + ", 2 * 7 + 1 of 10", putNew(x, 5, 1, false), Yard.HEAVY);
            DUE.row("kind " + kind + ": only what fits lies there", x, 0, 0, 2);
        }
    }

    private static void putAtTheLargestLimit() {
        for (int kind = TWOFOLD; kind <= LEAN; kind += 2) {
            Yard x = with(kind, 12, MOST_LIMIT);
            layDry(x, 9, 5, 1000);
            lay(x, 5, 999, false);
            due("kind " + kind + ", 19998 + 3 of 20000", putNew(x, 5, 3, false), Yard.HEAVY);
            due("kind " + kind + ", 19998 + 2 of 20000", putNew(x, 5, 2, false), 1);
        }
        Yard strict = with(STRICT, 12, MOST_LIMIT);
        layDry(strict, 12, 5, 1000);
        due("twelve of 1000 never reach 20000", strict.count(3), 0);
        Yard near = with(STRICT, 12, 11999);
        layDry(near, 11, 5, 1000);
        due("12000 of 11999", putNew(near, 5, 1000, false), Yard.HEAVY);
        due("11999 of 11999", putNew(near, 5, 999, false), 1);
    }

    private static void putWithoutLimit() {
        int[] kinds = {PLAIN, MARKED, SORTED, DRYING, OPEN};
        for (int kind : kinds) {
            Yard x = with(kind, 12, 0);
            layDry(x, 12, 5, 1000);
            due("kind " + kind + " has no HEAVY", x.count(3), 0);
        }
    }

    private static void putStrictFull() {
        Yard x = with(STRICT, 1, 10);
        lay(x, 5, 6, false);
        due("full, 11 of 10", putNew(x, 5, 5, false), Yard.HEAVY);
        DUE.done("full, 11 of 10", x, 3, 3, 20);
        due("full, 10 of 10", putNew(x, 5, 4, false), 0);
        DUE.done("full, 10 of 10", x, 5, 3, 20, 0);
        due("HEAVY once", x.count(3), 1);
    }

    private static void putOpen(int weight, boolean wet) {
        Yard x = with(OPEN, 1, 0);
        lay(x, 5, weight, wet);
        boolean due = weight % 2 == 1 || wet;
        due("weight " + weight + ", wet before: " + wet, x.of(0, 2), due ? 1 : 0);
        for (int kind = PLAIN; kind < OPEN; kind++) {
            Yard other = with(kind, 1, MOST_LIMIT);
            lay(other, 5, weight, wet);
            due("kind " + kind + " wets none, weight " + weight, other.of(0, 2), wet ? 1 : 0);
        }
    }

    private static void putOpenFull() {
        Yard x = with(OPEN, 1, 0);
        lay(x, 5, 2, false);
        due("odd, full", putNew(x, 5, 3, false), 0);
        due("odd, full: WET, on the ground", x.of(1, 2), 1);
        due("odd, full: WET, on the ground", x.of(1, 3), NONE);
        due("even, full", putNew(x, 5, 4, false), 0);
        due("even, full: as it was", x.of(2, 2), 0);
    }

    // ---- TAKE

    private static void take() {
        DUE.sentence("TAKE PLAIN: the topmost one, which lies on the ground then; NONE without any");
        int[] plain = {PLAIN, MARKED, SORTED, STRICT, TWOFOLD};
        for (int kind : plain) {
            takeUntilNone(kind);
        }
        DUE.sentence("TAKE DRYING, LEAN: NOTHING, if that is NONE");
        takeNothing(DRYING, 14);
        takeNothing(OPEN, 14);
        takeNothing(LEAN, 17);
        DUE.sentence("TAKE DRYING: if it is WET, it is WET no more, PUT with it is done, "
                + "and what comes is that of BELOW again");
        for (int cap = 1; cap <= 12; cap++) {
            takeWetOfFull(cap);
        }
        takeDry();
        takeWetAmongEquals();
        DUE.sentence("TAKE DRYING: PUT is the ACT of the PILE's own KIND, so that OPEN wets the odd ones again");
        int[] weights = {1, 2, 3, 998, 999, 1000};
        for (int weight : weights) {
            takeWetOfOpen(weight);
        }
        DUE.sentence("TAKE of a KIND below DRYING leaves a WET one WET");
        takeWetOfOthers();
        DUE.sentence("TAKE LEAN: its WEIGHT is 1 less (but 1 at least)");
        takeLean(1000, 999);
        takeLean(3, 2);
        takeLean(2, 1);
        takeLean(1, 1);
        takeLeanOverAndOver();
    }

    private static void takeUntilNone(int kind) {
        Yard x = with(kind, 2, 100);
        due("kind " + kind + ", never used", x.take(0), NONE);
        DUE.done("kind " + kind + ", never used", x, 0, 10);
        layDry(x, 2, 5, 2);
        due("kind " + kind + ", two there", x.take(0), 1);
        due("kind " + kind + ", on the ground then", x.of(1, 3), NONE);
        due("kind " + kind + ", the other lies there", x.of(0, 3), 0);
        due("kind " + kind + ", one there", x.take(0), 0);
        due("kind " + kind + ", none any more", x.take(0), NONE);
        due("kind " + kind + ", and so on", x.take(0), NONE);
        due("kind " + kind + ", NONE is not NOTHING", x.count(4), 0);
        due("kind " + kind + ", weights stay", x.of(1, 1), 2);
    }

    private static void takeNothing(int kind, int rule) {
        Yard x = with(kind, 2, 100);
        due("kind " + kind + ", never used", x.take(0), Yard.NOTHING);
        DUE.done("kind " + kind + ", never used", x, 0, rule, 10);
        due("kind " + kind + ", NOTHING once", x.count(4), 1);
        lay(x, 5, 2, false);
        due("kind " + kind + ", one there", x.take(0), 0);
        due("kind " + kind + ", still NOTHING once", x.count(4), 1);
        due("kind " + kind + ", none any more", x.take(0), Yard.NOTHING);
        due("kind " + kind + ", NOTHING twice", x.count(4), 2);
        due("kind " + kind + ", it can be used again", x.put(0, 0), 1);
    }

    private static void takeWetOfFull(int cap) {
        Yard x = with(DRYING, cap, 0);
        for (int i = 0; i < cap; i++) {
            lay(x, 5, 2, true);
        }
        int before = x.count(2);
        due("cap " + cap + ", full", x.take(0), cap - 1);
        DUE.done("cap " + cap + ", full", x, before, 14, 10, 2, 0, 10);
        due("cap " + cap + ", WET no more", x.of(cap - 1, 2), 0);
        due("cap " + cap + ", on the ground", x.of(cap - 1, 3), NONE);
        due("cap " + cap + ", a place is free", x.free(0), 1);
        if (cap > 1) {
            due("cap " + cap + ", the next stays WET", x.of(cap - 2, 2), 1);
        }
    }

    private static void takeDry() {
        Yard x = with(DRYING, 2, 0);
        lay(x, 9, 2, true);
        lay(x, 5, 2, false);
        int before = x.count(2);
        due("a dry one", x.take(0), 1);
        DUE.done("a dry one, without PUT", x, before, 14, 10);
        due("a dry one stays dry", x.of(1, 2), 0);
        due("the WET one under it stays WET", x.of(0, 2), 1);
    }

    private static void takeWetAmongEquals() {
        Yard x = with(DRYING, 3, 0);
        layDry(x, 2, 5, 2);
        lay(x, 5, 2, true);
        due("of equals, the topmost one", x.take(0), 2);
        DUE.row("of equals", x, 0, 0, 1);
    }

    private static void takeWetOfOpen(int weight) {
        Yard x = with(OPEN, 1, 0);
        lay(x, 5, weight, true);
        due("weight " + weight, x.take(0), 0);
        DUE.done("weight " + weight, x, 3, 14, 10, 6, 2, 0, 10);
        due("weight " + weight + ", WET", x.of(0, 2), weight % 2);
        due("weight " + weight + ", on the ground", x.of(0, 3), NONE);
    }

    private static void takeWetOfOthers() {
        int[] kinds = {PLAIN, MARKED, SORTED, STRICT, TWOFOLD, LEAN};
        for (int kind : kinds) {
            Yard x = with(kind, 1, 100);
            lay(x, 5, 2, true);
            due("kind " + kind, x.take(0), 0);
            due("kind " + kind + ", WET", x.of(0, 2), 1);
        }
    }

    private static void takeLean(int weight, int then) {
        Yard x = with(LEAN, 2, MOST_LIMIT);
        lay(x, 5, weight, false);
        lay(x, 5, weight, false);
        due("weight " + weight, x.take(0), 1);
        due("weight " + weight + ", then", x.of(1, 1), then);
        due("weight " + weight + ", the other stays", x.of(0, 1), weight);
        due("weight " + weight + ", the length stays", x.of(1, 0), 5);
    }

    private static void takeLeanOverAndOver() {
        Yard x = with(LEAN, 1, 100);
        x.timber(5, 3, false);
        int[] weights = {2, 1, 1, 1};
        for (int weight : weights) {
            x.put(0, 0);
            x.take(0);
            due("put and taken again", x.of(0, 1), weight);
        }
    }

    // ---- LOAD

    private static void load() {
        DUE.sentence("LOAD PLAIN: the WEIGHTS, added");
        for (int kind = PLAIN; kind <= LEAN; kind++) {
            due("kind " + kind + ", empty", with(kind, 12, MOST_LIMIT).load(0), 0);
        }
        loadOfFull();
        loadAfterTheLast();
        DUE.sentence("LOAD TWOFOLD: 2 * BELOW");
        loadTwofold();
        DUE.sentence("LOAD OPEN: BELOW + 10 for each that is WET");
        for (int wet = 0; wet <= 12; wet++) {
            loadOpen(wet);
        }
        loadWetOfOthers();
    }

    private static void loadOfFull() {
        int[] kinds = {PLAIN, MARKED, SORTED, STRICT, DRYING, OPEN};
        for (int kind : kinds) {
            Yard x = with(kind, 12, MOST_LIMIT);
            layDry(x, 12, 5, 1000);
            due("kind " + kind + ", twelve of 1000", x.load(0), 12000);
        }
        Yard one = with(PLAIN, 1, 0);
        lay(one, 5, 1, false);
        due("one of 1", one.load(0), 1);
    }

    private static void loadAfterTheLast() {
        Yard x = with(PLAIN, 2, 0);
        lay(x, 5, 7, false);
        x.take(0);
        due("empty again", x.load(0), 0);
    }

    private static void loadTwofold() {
        for (int kind = TWOFOLD; kind <= LEAN; kind += 2) {
            Yard x = with(kind, 12, MOST_LIMIT);
            lay(x, 5, 1, false);
            due("kind " + kind + ", one of 1", x.load(0), 2);
            Yard full = with(kind, 10, MOST_LIMIT);
            layDry(full, 10, 5, 1000);
            due("kind " + kind + ", ten of 1000", full.load(0), 20000);
        }
    }

    private static void loadOpen(int wet) {
        Yard x = with(OPEN, 12, 0);
        for (int i = 0; i < 12; i++) {
            lay(x, 5, 1000, i < wet);
        }
        due("twelve of 1000, WET are " + wet, x.load(0), 12000 + 10 * wet);
    }

    private static void loadWetOfOthers() {
        for (int kind = PLAIN; kind < OPEN; kind++) {
            Yard x = with(kind, 1, 100);
            lay(x, 5, 2, true);
            due("kind " + kind + " adds none for WET", x.load(0), kind == TWOFOLD ? 4 : 2);
        }
    }

    // ---- SEARCH

    private static void search() {
        DUE.sentence("SEARCH PLAIN: the lowest place, from 0 on, of a TIMBER so long at least; NONE");
        for (int kind = PLAIN; kind <= LEAN; kind++) {
            searchEmpty(kind);
            searchOne(kind);
        }
        searchLowest();
        searchTopmost();
        DUE.sentence("SEARCH TWOFOLD: BELOW; if that is NONE, BELOW for half the length, cut");
        for (int kind = TWOFOLD; kind <= LEAN; kind += 2) {
            searchHalf(kind);
            searchHalfOfEdges(kind);
        }
        DUE.sentence("SEARCH DRYING: NONE, if that is NONE, or what lies there is WET");
        for (int kind = DRYING; kind <= OPEN; kind += 2) {
            searchWet(kind);
        }
        searchWetOfOthers();
    }

    private static void searchEmpty(int kind) {
        Yard x = with(kind, 2, 100);
        due("kind " + kind + ", empty, 1", x.search(0, 1), NONE);
        due("kind " + kind + ", empty, 1000", x.search(0, 1000), NONE);
        lay(x, 1000, 2, false);
        x.take(0);
        due("kind " + kind + ", empty again", x.search(0, 1), NONE);
    }

    private static void searchOne(int kind) {
        Yard x = with(kind, 2, 100);
        lay(x, 1000, 2, false);
        due("kind " + kind + ", 1 of 1000", x.search(0, 1), 0);
        due("kind " + kind + ", 1000 of 1000", x.search(0, 1000), 0);
        Yard y = with(kind, 2, 100);
        lay(y, 1, 2, false);
        due("kind " + kind + ", 1 of 1", y.search(0, 1), 0);
        due("kind " + kind + ", 1000 of 1", y.search(0, 1000), NONE);
    }

    private static void searchLowest() {
        Yard x = with(PLAIN, 4, 0);
        lay(x, 10, 2, false);
        lay(x, 30, 2, false);
        lay(x, 30, 2, false);
        lay(x, 31, 2, false);
        due("10", x.search(0, 10), 0);
        due("11", x.search(0, 11), 1);
        due("30, of equals the lower", x.search(0, 30), 1);
        due("31", x.search(0, 31), 3);
        due("32", x.search(0, 32), NONE);
    }

    private static void searchTopmost() {
        Yard x = with(MARKED, 12, 0);
        layDry(x, 11, 999, 2);
        lay(x, 1000, 2, false);
        due("1000 at the 12th place", x.search(0, 1000), 11);
        x.take(0);
        due("1000 is not there any more", x.search(0, 1000), NONE);
    }

    private static void searchHalf(int kind) {
        Yard x = with(kind, 3, 100);
        lay(x, 10, 2, false);
        lay(x, 30, 2, false);
        int before = x.count(2);
        due("kind " + kind + ", 30 itself", x.search(0, 30), 1);
        DUE.done("kind " + kind + ", 30 itself", x, before, 35, 30);
        before = x.count(2);
        due("kind " + kind + ", 31, half is 15", x.search(0, 31), 1);
        DUE.done("kind " + kind + ", 31, half is 15", x, before, 35, 30, 30);
        due("kind " + kind + ", 60, half is 30", x.search(0, 60), 1);
        due("kind " + kind + ", 61, half is 30, cut", x.search(0, 61), 1);
        due("kind " + kind + ", 62, half is 31", x.search(0, 62), NONE);
    }

    private static void searchHalfOfEdges(int kind) {
        Yard x = with(kind, 3, 100);
        lay(x, 499, 2, false);
        due("kind " + kind + ", 999, half is 499, cut", x.search(0, 999), 0);
        due("kind " + kind + ", 1000, half is 500", x.search(0, 1000), NONE);
        lay(x, 500, 2, false);
        due("kind " + kind + ", 1000, half is 500", x.search(0, 1000), 1);
        Yard least = with(kind, 3, 100);
        lay(least, 1, 2, false);
        due("kind " + kind + ", 3, half is 1, cut", least.search(0, 3), 0);
        due("kind " + kind + ", 4, half is 2", least.search(0, 4), NONE);
        Yard empty = with(kind, 3, 100);
        due("kind " + kind + ", empty, 1, half is 0, cut", empty.search(0, 1), NONE);
        DUE.done("kind " + kind + ", empty", empty, 0, 35, 30, 30);
    }

    private static void searchWet(int kind) {
        Yard x = with(kind, 3, 0);
        lay(x, 30, 2, true);
        lay(x, 20, 2, false);
        due("kind " + kind + ", the lowest is WET, a dry one above", x.search(0, 20), NONE);
        due("kind " + kind + ", the only one is WET", x.search(0, 30), NONE);
        due("kind " + kind + ", none so long", x.search(0, 31), NONE);
        lay(x, 40, 2, false);
        due("kind " + kind + ", the lowest is dry", x.search(0, 40), 0);
        due("kind " + kind + ", none so long", x.search(0, 41), NONE);
    }

    private static void searchWetOfOthers() {
        int[] kinds = {PLAIN, MARKED, SORTED, STRICT, TWOFOLD, LEAN};
        for (int kind : kinds) {
            Yard x = with(kind, 3, 100);
            lay(x, 30, 2, true);
            due("kind " + kind + " finds WET ones", x.search(0, 30), 0);
        }
    }

    // ---- FREE

    private static void free() {
        DUE.sentence("FREE PLAIN: CAP less how many lie there");
        int[] kinds = {PLAIN, MARKED, SORTED, STRICT, DRYING, TWOFOLD, OPEN};
        for (int kind : kinds) {
            freeOfCap(kind, 1);
            freeOfCap(kind, 12);
        }
        DUE.sentence("FREE STRICT: 0, if LOAD is LIMIT or more, else BELOW");
        freeStrict();
        freeTwofold(TWOFOLD, 4);
        DUE.sentence("FREE STRICT: LIMIT 0 and LIMIT 20000");
        freeAtLimitEdges();
        DUE.sentence("FREE LEAN: BELOW less 1, but 0 at least");
        freeLean(1);
        freeLean(2);
        freeLean(12);
        freeTwofold(LEAN, 3);
    }

    private static void freeOfCap(int kind, int cap) {
        Yard x = with(kind, cap, MOST_LIMIT);
        for (int left = cap; left > 0; left--) {
            due("kind " + kind + ", cap " + cap, x.free(0), left);
            lay(x, 5, 2, false);
        }
        due("kind " + kind + ", cap " + cap + ", full", x.free(0), 0);
        x.take(0);
        due("kind " + kind + ", cap " + cap + ", one less", x.free(0), 1);
    }

    private static void freeStrict() {
        Yard x = with(STRICT, 5, 10);
        lay(x, 5, 9, false);
        int before = x.count(2);
        due("9 of 10", x.free(0), 4);
        DUE.done("9 of 10", x, before, 43, 20, 40);
        lay(x, 5, 1, false);
        before = x.count(2);
        due("10 of 10", x.free(0), 0);
        DUE.done("10 of 10, without BELOW", x, before, 43, 20);
    }

    private static void freeTwofold(int kind, int below) {
        Yard x = with(kind, 5, 9);
        lay(x, 5, 4, false);
        due("kind " + kind + ", 8 of 9", x.free(0), below);
        lay(x, 5, 1, false);
        due("kind " + kind + ", 10 of 9", x.free(0), 0);
        Yard y = with(kind, 5, 8);
        lay(y, 5, 4, false);
        due("kind " + kind + ", 8 of 8", y.free(0), 0);
    }

    private static void freeAtLimitEdges() {
        int[] kinds = {STRICT, TWOFOLD, LEAN};
        for (int kind : kinds) {
            due("kind " + kind + ", empty, LIMIT 0", with(kind, 5, 0).free(0), 0);
            due("kind " + kind + ", empty, LIMIT 1", with(kind, 5, 1).free(0), kind == LEAN ? 4 : 5);
        }
        Yard x = with(TWOFOLD, 12, MOST_LIMIT);
        layDry(x, 9, 5, 1000);
        lay(x, 5, 999, false);
        due("19998 of 20000", x.free(0), 2);
        lay(x, 5, 1, false);
        due("20000 of 20000", x.free(0), 0);
    }

    private static void freeLean(int cap) {
        Yard x = with(LEAN, cap, MOST_LIMIT);
        for (int below = cap; below > 0; below--) {
            due("cap " + cap + ", BELOW is " + below, x.free(0), below - 1);
            lay(x, 5, 2, false);
        }
        int before = x.count(2);
        due("cap " + cap + ", BELOW is 0", x.free(0), 0);
        DUE.done("cap " + cap + ", BELOW is 0", x, before, 47, 43, 25, 20, 40);
    }

    // ---- FULL

    private static void full() {
        DUE.sentence("FULL: a PLAIN PILE: CAP TIMBERS lie there");
        fullOfCap(PLAIN, 1);
        fullOfCap(PLAIN, 12);
        DUE.sentence("FULL: any other one: FREE is 0");
        int[] kinds = {MARKED, SORTED, STRICT, DRYING, TWOFOLD, OPEN};
        for (int kind : kinds) {
            fullOfCap(kind, 1);
            fullOfCap(kind, 12);
        }
        fullByLimit();
        fullLean();
        DUE.sentence("FULL of a PLAIN PILE is none");
        fullIsNoRule();
    }

    private static void fullOfCap(int kind, int cap) {
        Yard x = with(kind, cap, MOST_LIMIT);
        for (int i = 0; i < cap; i++) {
            due("kind " + kind + ", " + i + " of " + cap, x.full(0), 0);
            lay(x, 5, 2, false);
        }
        due("kind " + kind + ", " + cap + " of " + cap, x.full(0), 1);
        x.take(0);
        due("kind " + kind + ", one taken", x.full(0), 0);
    }

    private static void fullByLimit() {
        int[] kinds = {STRICT, TWOFOLD, LEAN};
        for (int kind : kinds) {
            due("kind " + kind + ", empty, LIMIT 0", with(kind, 5, 0).full(0), 1);
            due("kind " + kind + ", empty, LIMIT 1", with(kind, 5, 1).full(0), 0);
        }
        due("kind 0, empty, LIMIT 0", with(PLAIN, 5, 0).full(0), 0);
        due("kind 1, empty, LIMIT 0", with(MARKED, 5, 0).full(0), 0);
        Yard x = with(STRICT, 5, 10);
        lay(x, 5, 9, false);
        due("9 of 10", x.full(0), 0);
        lay(x, 5, 1, false);
        due("10 of 10", x.full(0), 1);
    }

    private static void fullLean() {
        due("cap 1, empty", with(LEAN, 1, 100).full(0), 1);
        Yard x = with(LEAN, 3, 100);
        due("cap 3, empty", x.full(0), 0);
        lay(x, 5, 2, false);
        due("cap 3, two places left", x.full(0), 0);
        lay(x, 5, 2, false);
        due("cap 3, one place left", x.full(0), 1);
        lay(x, 5, 2, false);
        due("cap 3, CAP TIMBERS", x.full(0), 1);
    }

    private static void fullIsNoRule() {
        Yard x = with(PLAIN, 1, 0);
        x.full(0);
        due("empty", x.count(2), 0);
        due("empty", x.trace(0), UNKNOWN);
        lay(x, 5, 2, false);
        x.full(0);
        DUE.done("full", x, 0, 0);
        int[][] others = {{}, {40}, {40}, {43, 20, 40}, {40}, {43, 25, 20, 40}, {40}, {47, 43, 25, 20, 40}};
        for (int kind = MARKED; kind <= LEAN; kind++) {
            Yard y = with(kind, 3, 100);
            y.full(0);
            DUE.done("kind " + kind, y, 0, others[kind]);
        }
    }

    // ---- THE TRACE

    private static void trace() {
        DUE.sentence("THE TRACE: the latest 200 are kept");
        int[] howMany = {0, 1, 2, 198, 199, 200, 201, 202, 299};
        for (int rules : howMany) {
            traceOfSingleRules(rules);
        }
        int[] times = {39, 40, 41, 79, 80, 81, 120, 300};
        for (int fulls : times) {
            traceOfFiveRules(fulls);
        }
        DUE.sentence("each RULE, as it begins, comes behind THE TRACE");
        traceInOrder();
        DUE.sentence("HEAVY ends the ACT there: what was done by then stays done");
        heavyEnds();
        DUE.sentence("NOTHING ends the ACT there: what was done by then stays done");
        nothingEnds();
        DUE.sentence("an object is used for at most 512 calls");
        lastCall();
    }

    /** As the document tells it: the latest first, UNKNOWN beyond the 200th or the first ever. */
    private static void wholeTrace(String call, Yard x, List<Integer> rules) {
        due(call + ", trace(-1)", x.trace(-1), UNKNOWN);
        for (int i = 0; i < 202; i++) {
            int want = i < 200 && i < rules.size() ? rules.get(rules.size() - 1 - i) : UNKNOWN;
            due(call + ", trace(" + i + ")", x.trace(i), want);
        }
        due(call + ", trace of the largest int", x.trace(Integer.MAX_VALUE), UNKNOWN);
        due(call + ", trace of the smallest int", x.trace(Integer.MIN_VALUE), UNKNOWN);
        due(call + ", RULES done ever", x.count(2), rules.size());
    }

    private static void traceOfSingleRules(int howMany) {
        Yard x = with(PLAIN, 1, 0);
        List<Integer> rules = new ArrayList<>();
        for (int i = 0; i < howMany; i++) {
            // no period that divides 200, so that a ring that is off by some places shows
            switch (i * i % 7) {
                case 0: x.load(0); rules.add(20); break;
                case 1: x.search(0, 1); rules.add(30); break;
                case 2: x.free(0); rules.add(40); break;
                default: x.take(0); rules.add(10); break;
            }
        }
        wholeTrace(howMany + " rules", x, rules);
    }

    private static void traceOfFiveRules(int fulls) {
        Yard x = with(LEAN, 3, 100);
        List<Integer> rules = new ArrayList<>();
        for (int i = 0; i < fulls; i++) {
            x.full(0);
            rules.addAll(List.of(47, 43, 25, 20, 40));
        }
        wholeTrace(5 * fulls + " rules", x, rules);
    }

    private static void traceInOrder() {
        Yard x = with(OPEN, 2, 0);
        x.pile(LEAN, 2, 100);
        lay(x, 5, 3, false);
        int before = x.count(2);
        due("move", x.move(0, 1), 0);
        DUE.done("move", x, before, 14, 10, 6, 2, 0, 10, 3, 25, 20, 0);
    }

    private static void heavyEnds() {
        Yard x = with(LEAN, 2, 3);
        x.timber(5, 4, true);
        due("put", x.put(0, 0), Yard.HEAVY);
        DUE.done("put", x, 0, 3, 25, 20);
        due("HEAVY ever", x.count(3), 1);
        DUE.row("the pile stays as it was", x, 0);
        due("it stays on the ground", x.of(0, 3), NONE);
        due("it stays WET", x.of(0, 2), 1);
        due("its weight stays", x.of(0, 1), 4);
        due("again", x.put(0, 0), Yard.HEAVY);
        due("HEAVY ever", x.count(3), 2);
        due("RULES ever", x.count(2), 6);
    }

    private static void nothingEnds() {
        int[] kinds = {DRYING, OPEN, LEAN};
        for (int kind : kinds) {
            Yard x = with(kind, 2, 100);
            due("kind " + kind, x.take(0), Yard.NOTHING);
            DUE.done("kind " + kind, x, 0, kind == LEAN ? 17 : 14, 10);
            due("kind " + kind + ", NOTHING ever", x.count(4), 1);
            due("kind " + kind + ", again", x.take(0), Yard.NOTHING);
            due("kind " + kind + ", NOTHING ever", x.count(4), 2);
            due("kind " + kind + ", RULES ever", x.count(2), 4);
        }
    }

    private static void lastCall() {
        Yard x = with(OPEN, 1, 0);
        lay(x, 5, 3, false);
        int moves = 0;
        while (x.callsLeft() > 2) {
            due("move " + moves, x.move(0, 0), 0);
            moves++;
        }
        due("the last but one: trace(199)", x.trace(199), 2);
        due("the 512th: count(2)", x.count(2), 3 + 9 * moves);
    }
}
