/** Each promise of the document: ordinary inputs, its edges, and wrong inputs. */
public final class PromisesTest {
    private static final int[] WRONG_NUMBERS = {Integer.MIN_VALUE, -2, -1, 60, 1000, Integer.MAX_VALUE};
    private static final int PLAIN = 0, MARKED = 1, SORTED = 2, STRICT = 3, DRYING = 4, TWOFOLD = 5,
            OPEN = 6, LEAN = 7;
    private static final Due DUE = new Due();

    public static void main(String[] args) {
        newObject();
        timber();
        timberRoom();
        pile();
        pileRoom();
        putPlain();
        putCodes();
        putSorted();
        putStrict();
        putOpen();
        takePlain();
        takeDrying();
        takeOpen();
        takeLean();
        load();
        search();
        searchTwofold();
        searchDrying();
        free();
        freeStrict();
        freeLean();
        full();
        move();
        moveRefused();
        at();
        of();
        trace();
        count();
        unknownPiles();
        nothingChangesByCodes();
        DUE.end("PromisesTest");
    }

    private static void due(String call, long got, long want) {
        DUE.same(call, got, want);
    }

    /** A yard with one pile and dry timbers of weight 2, laid on it in turn. */
    private static Yard yardOf(int kind, int cap, int limit, int... lengths) {
        Yard x = new Yard();
        x.pile(kind, cap, limit);
        for (int i = 0; i < lengths.length; i++) {
            x.timber(lengths[i], 2, false);
            due("kind " + kind + " put(0, " + i + ")", x.put(0, i), 1);
        }
        return x;
    }

    private static void row(String call, Yard x, int pile, int... timbers) {
        DUE.row(call, x, pile, timbers);
    }

    private static void newObject() {
        Yard x = new Yard();
        for (int what = 0; what < 5; what++) {
            due("new: count(" + what + ")", x.count(what), 0);
        }
        due("new: trace(0)", x.trace(0), PileHeirs.UNKNOWN);
        due("new: of(0, 0)", x.of(0, 0), PileHeirs.UNKNOWN);
        due("new: load(0)", x.load(0), PileHeirs.UNKNOWN);
        due("new: two objects share nothing", x.timber(1, 1, true), 0);
        due("new: two objects share nothing", new Yard().count(0), 0);
    }

    private static void timber() {
        Yard x = new Yard();
        due("timber(1, 1, false)", x.timber(1, 1, false), 0);
        due("timber(1000, 1000, true)", x.timber(1000, 1000, true), 1);
        int[] outside = {Integer.MIN_VALUE, -1, 0, 1001, Integer.MAX_VALUE};
        for (int wrong : outside) {
            due("timber(" + wrong + ", 5, false)", x.timber(wrong, 5, false), PileHeirs.OUTSIDE);
            due("timber(5, " + wrong + ", false)", x.timber(5, wrong, false), PileHeirs.OUTSIDE);
        }
        due("timber: none of these is there", x.count(0), 2);
        due("timber: at first on the ground", x.of(1, 3), PileHeirs.NONE);
        due("timber: of(1, 0)", x.of(1, 0), 1000);
        due("timber: of(1, 1)", x.of(1, 1), 1000);
        due("timber: of(1, 2)", x.of(1, 2), 1);
    }

    private static void timberRoom() {
        Yard x = new Yard();
        for (int i = 0; i < 60; i++) {
            due("timber number " + i, x.timber(1 + i, 60 - i, i % 2 == 0), i);
        }
        due("timber 61", x.timber(1, 1, false), PileHeirs.ROOM);
        due("timber 61, OUTSIDE first", x.timber(0, 1, false), PileHeirs.OUTSIDE);
        due("timber 61: count(0)", x.count(0), 60);
        due("timber 59 stays", x.of(59, 0), 60);
        due("timber 0 stays", x.of(0, 1), 60);
    }

    private static void pile() {
        Yard x = new Yard();
        for (int kind = PLAIN; kind <= LEAN; kind++) {
            due("pile(" + kind + ", 1, 0)", x.pile(kind, 1, 0), kind);
        }
        due("pile(7, 12, 20000)", x.pile(LEAN, 12, 20000), 8);
        int[][] outside = {{-1, 1, 0}, {8, 1, 0}, {0, 0, 0}, {0, 13, 0}, {0, 1, -1}, {0, 1, 20001},
            {Integer.MIN_VALUE, 1, 0}, {0, Integer.MAX_VALUE, 0}, {0, 1, Integer.MIN_VALUE}};
        for (int[] p : outside) {
            due("pile(" + p[0] + ", " + p[1] + ", " + p[2] + ")", x.pile(p[0], p[1], p[2]), PileHeirs.OUTSIDE);
        }
        due("pile: none of these is there", x.count(1), 9);
        due("pile: no rule is done", x.count(2), 0);
    }

    private static void pileRoom() {
        Yard x = new Yard();
        for (int i = 0; i < 12; i++) {
            due("pile number " + i, x.pile(PLAIN, 1 + i, 0), i);
        }
        due("pile 13", x.pile(PLAIN, 1, 0), PileHeirs.ROOM);
        due("pile 13, OUTSIDE first", x.pile(PLAIN, 0, 0), PileHeirs.OUTSIDE);
        due("pile 13: count(1)", x.count(1), 12);
        due("pile 11: free", x.free(11), 12);
    }

    private static void putPlain() {
        for (int kind = PLAIN; kind <= MARKED; kind++) {
            Yard x = yardOf(kind, 2, 0, 5, 9);
            row("put on kind " + kind, x, 0, 0, 1);
            x.timber(7, 7, false);
            due("put on a full pile", x.put(0, 2), 0);
            due("put on a full pile: on the ground", x.of(2, 3), PileHeirs.NONE);
            due("put: of(1, 3)", x.of(1, 3), 0);
            row("put on a full pile", x, 0, 0, 1);
            DUE.traced("put thrice", x, 0, 0, 0, PileHeirs.UNKNOWN);
        }
        int[] twelve = {1, 2, 3, 4, 5, 6, 7, 8, 9, 10, 11, 12};
        Yard x = yardOf(PLAIN, 12, 0, twelve);
        x.timber(1, 1, false);
        due("put, the 13th", x.put(0, 12), 0);
    }

    private static void putCodes() {
        Yard x = yardOf(STRICT, 2, 2, 5);
        x.timber(5, 5, false);
        for (int wrong : WRONG_NUMBERS) {
            due("put(" + wrong + ", 1)", x.put(wrong, 1), PileHeirs.UNKNOWN);
            due("put(0, " + wrong + ")", x.put(0, wrong), PileHeirs.UNKNOWN);
            due("put(" + wrong + ", 0), UNKNOWN before STATE", x.put(wrong, 0), PileHeirs.UNKNOWN);
        }
        due("put(0, 2), the next number", x.put(0, 2), PileHeirs.UNKNOWN);
        due("put(1, 1), the next number", x.put(1, 1), PileHeirs.UNKNOWN);
        due("put(0, 0), STATE before HEAVY", x.put(0, 0), PileHeirs.STATE);
        x.pile(PLAIN, 1, 0);
        due("put(1, 0), it lies in another pile", x.put(1, 0), PileHeirs.STATE);
        due("put: codes are no HEAVY", x.count(3), 0);
    }

    private static void putSorted() {
        Yard x = yardOf(SORTED, 5, 0, 50, 20, 50, 90, 30);
        row("put sorted", x, 0, 3, 0, 2, 4, 1);
        DUE.traced("put sorted", x, 0, 2, 0, 2);
        x.timber(1000, 1, false);
        due("put sorted, full", x.put(0, 5), 0);
        row("put sorted, full", x, 0, 3, 0, 2, 4, 1);
        due("put sorted, full: on the ground", x.of(5, 3), PileHeirs.NONE);
    }

    private static void putStrict() {
        Yard x = yardOf(STRICT, 2, 10, 5);
        x.timber(5, 9, false);
        x.timber(5, 8, false);
        x.timber(5, 1, false);
        due("put strict, 11 of 10", x.put(0, 1), Yard.HEAVY);
        DUE.traced("put strict, 11 of 10", x, 20, 3);
        due("put strict, HEAVY: on the ground", x.of(1, 3), PileHeirs.NONE);
        due("put strict, HEAVY: count(3)", x.count(3), 1);
        due("put strict, 10 of 10", x.put(0, 2), 1);
        DUE.traced("put strict, 10 of 10", x, 0, 20, 3);
        row("put strict", x, 0, 0, 2);
        due("put strict, HEAVY before full", x.put(0, 3), Yard.HEAVY);
        Yard y = yardOf(TWOFOLD, 9, 10, 5);
        y.timber(5, 6, false);
        y.timber(5, 7, false);
        due("put twofold, 4 + 7 of 10", y.put(0, 2), Yard.HEAVY);
        DUE.traced("put twofold, HEAVY", y, 20, 25, 3);
        due("put twofold, 4 + 6 of 10", y.put(0, 1), 1);
        due("put twofold: load", y.load(0), 16);
        Yard z = yardOf(LEAN, 1, 9, 5);
        z.timber(5, 5, false);
        due("put lean, full and not HEAVY", z.put(0, 1), 0);
        Yard none = new Yard();
        none.pile(STRICT, 1, 0);
        none.timber(1, 1, false);
        due("put strict, limit 0", none.put(0, 0), Yard.HEAVY);
    }

    private static void putOpen() {
        Yard x = new Yard();
        x.pile(OPEN, 3, 0);
        x.timber(10, 7, false);
        x.timber(20, 8, false);
        x.timber(30, 8, true);
        x.timber(40, 9, false);
        due("put open, odd", x.put(0, 0), 1);
        DUE.traced("put open", x, 0, 2, 6);
        due("put open, odd: wet", x.of(0, 2), 1);
        due("put open, even", x.put(0, 1), 1);
        due("put open, even: stays dry", x.of(1, 2), 0);
        due("put open, even", x.put(0, 2), 1);
        due("put open, even: stays wet", x.of(2, 2), 1);
        row("put open", x, 0, 2, 1, 0);
        due("put open, full", x.put(0, 3), 0);
        due("put open, full: wet all the same", x.of(3, 2), 1);
    }

    private static void takePlain() {
        int[] kinds = {PLAIN, MARKED, SORTED, STRICT, TWOFOLD};
        for (int kind : kinds) {
            Yard x = yardOf(kind, 3, 100, 30, 20);
            due("take of kind " + kind, x.take(0), 1);
            due("take: on the ground", x.of(1, 3), PileHeirs.NONE);
            due("take: weight stays", x.of(1, 1), 2);
            row("take", x, 0, 0);
            DUE.traced("take of kind " + kind, x, 10, 0);
            due("take of kind " + kind, x.take(0), 0);
            due("take of kind " + kind + ", empty", x.take(0), PileHeirs.NONE);
            due("take of kind " + kind + ", empty: count(4)", x.count(4), 0);
            due("take, then put again", x.put(0, 1), 1);
        }
        Yard wet = new Yard();
        wet.pile(SORTED, 1, 0);
        wet.timber(1, 1, true);
        wet.put(0, 0);
        due("take sorted, wet", wet.take(0), 0);
        due("take sorted: stays wet", wet.of(0, 2), 1);
    }

    private static void takeDrying() {
        Yard x = new Yard();
        x.pile(DRYING, 2, 0);
        x.timber(30, 3, false);
        x.timber(20, 3, true);
        x.put(0, 0);
        x.put(0, 1);
        due("take drying, wet", x.take(0), 1);
        DUE.traced("take drying, wet", x, 10, 0, 2, 10, 14, 0, 2);
        due("take drying, wet: dry now", x.of(1, 2), 0);
        due("take drying, wet: on the ground", x.of(1, 3), PileHeirs.NONE);
        due("take drying, dry", x.take(0), 0);
        DUE.traced("take drying, dry", x, 10, 14, 10, 0, 2);
        due("take drying, empty", x.take(0), Yard.NOTHING);
        DUE.traced("take drying, empty", x, 10, 14, 10, 14);
        due("take drying, empty: count(4)", x.count(4), 1);
    }

    private static void takeOpen() {
        Yard x = new Yard();
        x.pile(OPEN, 1, 0);
        x.timber(30, 3, false);
        x.timber(30, 4, true);
        x.put(0, 0);
        due("take open, odd", x.take(0), 0);
        DUE.traced("take open, odd", x, 10, 0, 2, 6, 10, 14, 0, 2, 6);
        due("take open, odd: wet again", x.of(0, 2), 1);
        x.put(0, 1);
        due("take open, even", x.take(0), 1);
        due("take open, even: dry", x.of(1, 2), 0);
        due("take open, empty", x.take(0), Yard.NOTHING);
    }

    private static void takeLean() {
        Yard x = yardOf(LEAN, 2, 100, 9, 9);
        due("take lean", x.take(0), 1);
        DUE.traced("take lean", x, 10, 17);
        due("take lean: 1 less", x.of(1, 1), 1);
        due("take lean: the other stays", x.of(0, 1), 2);
        x.put(0, 1);
        due("take lean", x.take(0), 1);
        due("take lean: 1 at least", x.of(1, 1), 1);
        due("take lean", x.take(0), 0);
        due("take lean, empty", x.take(0), Yard.NOTHING);
        DUE.traced("take lean, empty", x, 10, 17, 10, 17);
        due("take lean, empty: count(4)", x.count(4), 1);
    }

    private static void load() {
        int[] due = {6, 6, 6, 6, 6, 12, 6, 12};
        int[][] traces = {{20}, {20}, {20}, {20}, {20}, {20, 25}, {20, 26}, {20, 25}};
        for (int kind = PLAIN; kind <= LEAN; kind++) {
            Yard x = yardOf(kind, 4, 100, 1, 2, 3);
            int before = x.count(2);
            due("load of kind " + kind, x.load(0), due[kind]);
            DUE.traced("load of kind " + kind, x, traces[kind]);
            due("load of kind " + kind + ": rules", x.count(2) - before, traces[kind].length);
        }
        Yard open = yardOf(OPEN, 4, 0, 5);
        open.timber(5, 3, false);
        open.timber(5, 4, true);
        open.put(0, 1);
        open.put(0, 2);
        due("load of an open pile, two wet", open.load(0), 29);
        due("load of an empty pile", yardOf(OPEN, 1, 0).load(0), 0);
    }

    private static void search() {
        Yard x = yardOf(PLAIN, 4, 0, 10, 30, 20, 30);
        due("search(0, 1)", x.search(0, 1), 0);
        due("search(0, 10)", x.search(0, 10), 0);
        due("search(0, 11)", x.search(0, 11), 1);
        due("search(0, 30)", x.search(0, 30), 1);
        due("search(0, 31)", x.search(0, 31), PileHeirs.NONE);
        due("search(0, 1000)", x.search(0, 1000), PileHeirs.NONE);
        DUE.traced("search", x, 30, 30, 30, 30, 30, 30, 0);
        int before = x.count(2);
        int[] outside = {Integer.MIN_VALUE, -1, 0, 1001, Integer.MAX_VALUE};
        for (int wrong : outside) {
            due("search(0, " + wrong + ")", x.search(0, wrong), PileHeirs.OUTSIDE);
            due("search(9, " + wrong + ")", x.search(9, wrong), PileHeirs.UNKNOWN);
        }
        due("search, wrong: no rule is done", x.count(2), before);
    }

    private static void searchTwofold() {
        for (int kind = TWOFOLD; kind <= LEAN; kind += 2) {
            Yard x = yardOf(kind, 4, 100, 10, 30);
            due("search twofold(0, 11)", x.search(0, 11), 1);
            DUE.traced("search twofold, found", x, 30, 35, 0);
            due("search twofold(0, 31)", x.search(0, 31), 1);
            DUE.traced("search twofold, half", x, 30, 30, 35, 30, 35);
            due("search twofold(0, 61), cut", x.search(0, 61), 1);
            due("search twofold(0, 62)", x.search(0, 62), PileHeirs.NONE);
        }
        Yard empty = yardOf(TWOFOLD, 4, 100);
        due("search twofold, empty", empty.search(0, 1), PileHeirs.NONE);
        DUE.traced("search twofold, empty", empty, 30, 30, 35, PileHeirs.UNKNOWN);
    }

    private static void searchDrying() {
        for (int kind = DRYING; kind <= OPEN; kind += 2) {
            Yard x = new Yard();
            x.pile(kind, 3, 0);
            x.timber(50, 2, true);
            x.timber(40, 2, false);
            due("search drying, empty", x.search(0, 1), PileHeirs.NONE);
            x.put(0, 1);
            due("search drying, dry", x.search(0, 40), 0);
            DUE.traced("search drying", x, 30, 34);
            x.put(0, 0);
            due("search drying, wet", x.search(0, 40), PileHeirs.NONE);
            due("search drying, too long", x.search(0, 51), PileHeirs.NONE);
        }
        Yard sorted = new Yard();
        sorted.pile(SORTED, 1, 0);
        sorted.timber(5, 5, true);
        sorted.put(0, 0);
        due("search sorted, wet", sorted.search(0, 5), 0);
    }

    private static void free() {
        int[] kinds = {PLAIN, MARKED, SORTED, DRYING, OPEN};
        for (int kind : kinds) {
            Yard x = yardOf(kind, 2, 0, 5);
            due("free of kind " + kind, x.free(0), 1);
            DUE.traced("free of kind " + kind, x, 40, 0);
            x.timber(5, 5, false);
            x.put(0, 1);
            due("free of kind " + kind + ", full", x.free(0), 0);
        }
    }

    private static void freeStrict() {
        Yard x = yardOf(STRICT, 5, 5, 9, 9);
        due("free strict, 4 of 5", x.free(0), 3);
        DUE.traced("free strict", x, 40, 20, 43, 0);
        x.timber(9, 1, false);
        x.put(0, 2);
        due("free strict, 5 of 5", x.free(0), 0);
        DUE.traced("free strict, at the limit", x, 20, 43, 0);
        Yard y = yardOf(TWOFOLD, 5, 5, 9);
        due("free twofold, 4 of 5", y.free(0), 4);
        DUE.traced("free twofold", y, 40, 20, 25, 43, 0);
        y.timber(9, 1, false);
        y.put(0, 1);
        due("free twofold, 6 of 5", y.free(0), 0);
        due("free strict, limit 0", yardOf(STRICT, 5, 0).free(0), 0);
    }

    private static void freeLean() {
        Yard x = yardOf(LEAN, 3, 100, 9);
        due("free lean", x.free(0), 1);
        DUE.traced("free lean", x, 40, 20, 25, 43, 47, 0);
        x.timber(9, 1, false);
        x.timber(9, 1, false);
        x.put(0, 1);
        due("free lean, one place left", x.free(0), 0);
        due("put lean, one place left", x.put(0, 2), 1);
        due("free lean, full: 0 at least", x.free(0), 0);
        Yard y = yardOf(LEAN, 3, 4, 9);
        due("free lean, at the limit: 0 at least", y.free(0), 0);
        DUE.traced("free lean, at the limit", y, 20, 25, 43, 47, 0);
    }

    private static void full() {
        Yard x = yardOf(PLAIN, 2, 0, 5);
        due("full plain, not", x.full(0), 0);
        x.timber(5, 5, false);
        x.put(0, 1);
        due("full plain", x.full(0), 1);
        DUE.traced("full plain is no rule", x, 0, 0, PileHeirs.UNKNOWN);
        Yard y = yardOf(MARKED, 2, 0, 5);
        due("full marked, not", y.full(0), 0);
        DUE.traced("full marked", y, 40, 0, PileHeirs.UNKNOWN);
        Yard z = yardOf(STRICT, 2, 2, 5);
        due("full strict, at the limit", z.full(0), 1);
        DUE.traced("full strict", z, 20, 43, 0);
        Yard lean = yardOf(LEAN, 2, 100, 5);
        due("full lean, one place left", lean.full(0), 1);
        DUE.traced("full lean", lean, 40, 20, 25, 43, 47);
    }

    private static void move() {
        Yard x = yardOf(PLAIN, 3, 0, 10, 20);
        x.pile(SORTED, 3, 0);
        due("move(0, 1)", x.move(0, 1), 1);
        DUE.traced("move(0, 1)", x, 0, 2, 10);
        due("move: of(1, 3)", x.of(1, 3), 1);
        due("move(0, 1)", x.move(0, 1), 0);
        row("move", x, 1, 1, 0);
        due("move(0, 1), TAKE is NONE", x.move(0, 1), PileHeirs.NONE);
        due("move(0, 1), TAKE is NONE: count(4)", x.count(4), 0);
        due("move(1, 1), on the same", x.move(1, 1), 0);
        row("move on the same", x, 1, 1, 0);
        x.pile(DRYING, 3, 0);
        int before = x.count(2);
        due("move(2, 0), NOTHING", x.move(2, 0), PileHeirs.NONE);
        due("move(2, 0), NOTHING: count(4)", x.count(4), 1);
        due("move(2, 0), NOTHING: no PUT", x.count(2), before + 2);
        for (int wrong : WRONG_NUMBERS) {
            due("move(" + wrong + ", 1)", x.move(wrong, 1), PileHeirs.UNKNOWN);
            due("move(1, " + wrong + ")", x.move(1, wrong), PileHeirs.UNKNOWN);
        }
        due("move(3, 1), the next number", x.move(3, 1), PileHeirs.UNKNOWN);
        due("move(1, 3), the next number", x.move(1, 3), PileHeirs.UNKNOWN);
        row("move, UNKNOWN", x, 1, 1, 0);
        due("move, UNKNOWN: no rule is done", x.count(2), before + 2);
    }

    private static void moveRefused() {
        Yard x = yardOf(PLAIN, 3, 0, 10, 20, 30);
        x.pile(STRICT, 3, 1);
        due("move(0, 1), HEAVY", x.move(0, 1), -4);
        due("move(0, 1), HEAVY: on the ground", x.of(2, 3), PileHeirs.NONE);
        due("move(0, 1), HEAVY: count(3)", x.count(3), 1);
        row("move, HEAVY", x, 0, 0, 1);
        x.pile(PLAIN, 1, 0);
        due("move(0, 2)", x.move(0, 2), 1);
        due("move(0, 2), full", x.move(0, 2), -2);
        due("move(0, 2), full: on the ground", x.of(0, 3), PileHeirs.NONE);
        due("move(0, 2), full: count(3)", x.count(3), 1);
        Yard lean = yardOf(LEAN, 3, 100, 10);
        due("move lean, on the same", lean.move(0, 0), 0);
        due("move lean: 1 less", lean.of(0, 1), 1);
        Yard tight = new Yard();
        tight.pile(PLAIN, 1, 0);
        tight.pile(TWOFOLD, 2, 4);
        tight.timber(1, 4, false);
        tight.put(1, 0);
        due("move off and on again", tight.move(1, 1), 0);
    }

    private static void at() {
        Yard x = yardOf(PLAIN, 12, 0, 10, 20);
        due("at(0, 0)", x.at(0, 0), 0);
        due("at(0, 1)", x.at(0, 1), 1);
        due("at(0, 2)", x.at(0, 2), PileHeirs.UNKNOWN);
        due("at(1, 0), the next number", x.at(1, 0), PileHeirs.UNKNOWN);
        for (int wrong : WRONG_NUMBERS) {
            due("at(0, " + wrong + ")", x.at(0, wrong), PileHeirs.UNKNOWN);
            due("at(" + wrong + ", 0)", x.at(wrong, 0), PileHeirs.UNKNOWN);
        }
        x.take(0);
        due("at(0, 1) after take", x.at(0, 1), PileHeirs.UNKNOWN);
        due("at does no rule", x.count(2), 3);
    }

    private static void of() {
        Yard x = new Yard();
        x.pile(PLAIN, 1, 0);
        x.pile(PLAIN, 1, 0);
        x.timber(11, 22, true);
        x.timber(33, 44, false);
        x.put(1, 0);
        int[][] due = {{11, 22, 1, 1}, {33, 44, 0, PileHeirs.NONE}};
        for (int timber = 0; timber < 2; timber++) {
            for (int what = 0; what < 4; what++) {
                due("of(" + timber + ", " + what + ")", x.of(timber, what), due[timber][what]);
            }
        }
        due("of(2, 0), the next number", x.of(2, 0), PileHeirs.UNKNOWN);
        due("of(0, 4)", x.of(0, 4), PileHeirs.OUTSIDE);
        for (int wrong : WRONG_NUMBERS) {
            due("of(0, " + wrong + ")", x.of(0, wrong), PileHeirs.OUTSIDE);
            due("of(" + wrong + ", 0)", x.of(wrong, 0), PileHeirs.UNKNOWN);
            due("of(" + wrong + ", 4), UNKNOWN first", x.of(wrong, 4), PileHeirs.UNKNOWN);
        }
    }

    private static void trace() {
        Yard x = new Yard();
        x.pile(PLAIN, 1, 0);
        for (int i = 0; i < 199; i++) {
            x.load(0);
        }
        due("trace(198) of 199", x.trace(198), 20);
        due("trace(199) of 199", x.trace(199), PileHeirs.UNKNOWN);
        x.free(0);
        due("trace(0) of 200", x.trace(0), 40);
        due("trace(199) of 200", x.trace(199), 20);
        due("trace(200) of 200", x.trace(200), PileHeirs.UNKNOWN);
        for (int i = 0; i < 199; i++) {
            x.search(0, 1);
        }
        due("trace(0) of 399", x.trace(0), 30);
        due("trace(198) of 399", x.trace(198), 30);
        due("trace(199) of 399", x.trace(199), 40);
        x.load(0);
        due("trace(0) of 400", x.trace(0), 20);
        due("trace(199) of 400", x.trace(199), 30);
        due("trace(200) of 400", x.trace(200), PileHeirs.UNKNOWN);
        due("count(2) of 400", x.count(2), 400);
        int[] wrongs = {Integer.MIN_VALUE, -1, 201, 400, Integer.MAX_VALUE};
        for (int wrong : wrongs) {
            due("trace(" + wrong + ")", x.trace(wrong), PileHeirs.UNKNOWN);
        }
    }

    private static void count() {
        Yard x = yardOf(LEAN, 3, 6, 9, 9);
        x.pile(DRYING, 1, 0);
        x.timber(9, 9, false);
        x.put(0, 2);
        x.put(0, 2);
        x.take(1);
        x.move(1, 0);
        x.take(1);
        due("count(0)", x.count(0), 3);
        due("count(1)", x.count(1), 2);
        due("count(2)", x.count(2), 4 + 4 + 3 + 3 + 2 + 2 + 2);
        due("count(3)", x.count(3), 2);
        due("count(4)", x.count(4), 3);
        int[] outside = {Integer.MIN_VALUE, -1, 5, Integer.MAX_VALUE};
        for (int wrong : outside) {
            due("count(" + wrong + ")", x.count(wrong), PileHeirs.OUTSIDE);
        }
    }

    private static void unknownPiles() {
        Yard x = yardOf(LEAN, 3, 5, 9);
        int before = x.count(2);
        int[] wrongs = {Integer.MIN_VALUE, -1, 1, 11, 12, Integer.MAX_VALUE};
        for (int wrong : wrongs) {
            due("take(" + wrong + ")", x.take(wrong), PileHeirs.UNKNOWN);
            due("load(" + wrong + ")", x.load(wrong), PileHeirs.UNKNOWN);
            due("search(" + wrong + ", 1)", x.search(wrong, 1), PileHeirs.UNKNOWN);
            due("free(" + wrong + ")", x.free(wrong), PileHeirs.UNKNOWN);
            due("full(" + wrong + ")", x.full(wrong), PileHeirs.UNKNOWN);
        }
        due("unknown piles: no rule is done", x.count(2), before);
        due("unknown piles: count(4)", x.count(4), 0);
    }

    private static void nothingChangesByCodes() {
        Yard x = yardOf(OPEN, 2, 0, 9);
        x.timber(9, 9, false);
        int before = x.count(2);
        due("put(7, 1)", x.put(7, 1), PileHeirs.UNKNOWN);
        due("put(7, 1): stays dry", x.of(1, 2), 0);
        due("put(0, 0)", x.put(0, 0), PileHeirs.STATE);
        row("put(0, 0)", x, 0, 0);
        due("codes: no rule is done", x.count(2), before);
    }
}
