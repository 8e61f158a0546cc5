import java.util.function.Supplier;
import java.util.function.ToIntFunction;

/**
 * Each sentence of the promises 1 to 14 that names a boundary case, and the codes: which is first, and
 * that nothing is changed then.
 */
public final class BoundsTest {
    private static final int UNKNOWN = PileHeirs.UNKNOWN, OUTSIDE = PileHeirs.OUTSIDE, STATE = PileHeirs.STATE,
            ROOM = PileHeirs.ROOM, NONE = PileHeirs.NONE;
    private static final int PLAIN = 0, MARKED = 1, STRICT = 3, DRYING = 4, OPEN = 6, LEAN = 7;
    private static final int LEAST = Integer.MIN_VALUE, MOST = Integer.MAX_VALUE;

    // of the yard used(): piles 0 to 7 have the kinds of their numbers, and timbers 8 and 9 lie on the ground
    private static final int PILES = 8;
    private static final int TIMBERS = 10;
    private static final int DRY = 8;
    private static final int ODD = 9;
    private static final int[] NO_PILE = {LEAST, -1, PILES, 12, MOST};
    private static final int[] NO_TIMBER = {LEAST, -1, TIMBERS, 60, MOST};

    private static final Due DUE = new Due();

    public static void main(String[] args) {
        newObject();
        timber();
        pile();
        put();
        take();
        load();
        search();
        free();
        full();
        move();
        at();
        of();
        trace();
        count();
        order();
        DUE.end("BoundsTest");
    }

    private static void due(String call, long got, long want) {
        DUE.same(call, got, want);
    }

    /** Each kind has a pile with one timber, and room for one more; some timbers are wet. */
    private static Yard used() {
        Yard x = new Yard();
        for (int kind = PLAIN; kind < PILES; kind++) {
            x.pile(kind, 2, 50);
            x.timber(100 + kind, 4 + kind, kind % 3 == 0);
            x.put(kind, kind);
        }
        x.timber(300, 6, false);
        x.timber(400, 7, false);
        return x;
    }

    private static Yard empty() {
        Yard x = new Yard();
        for (int kind = PLAIN; kind < PILES; kind++) {
            x.pile(kind, 2, 50);
        }
        return x;
    }

    private static Yard withAllTimbers() {
        Yard x = new Yard();
        x.pile(PLAIN, 2, 0);
        for (int i = 0; i < 60; i++) {
            x.timber(1 + i, 1000 - i, i % 2 == 0);
        }
        x.put(0, 59);
        return x;
    }

    private static Yard withAllPiles() {
        Yard x = new Yard();
        x.timber(5, 5, true);
        for (int i = 0; i < 12; i++) {
            x.pile(i % 8, 12 - i, 100 * i);
        }
        x.put(11, 0);
        return x;
    }

    /** Against a yard with the same history without the call. */
    private static void changesNothing(String call, Supplier<Yard> history, ToIntFunction<Yard> asked, int answer) {
        Yard x = history.get();
        due(call, asked.applyAsInt(x), answer);
        DUE.same(call, Picture.of(x), Picture.of(history.get()));
    }

    private static void refused(String call, ToIntFunction<Yard> asked, int code) {
        changesNothing(call, BoundsTest::used, asked, code);
    }

    // ---- promise 1

    private static void newObject() {
        DUE.sentence("1: no TIMBERS");
        Yard x = new Yard();
        due("count(0)", x.count(0), 0);
        for (int what = 0; what < 4; what++) {
            due("of(0, " + what + ")", x.of(0, what), UNKNOWN);
        }
        DUE.sentence("1: no PILES");
        due("count(1)", x.count(1), 0);
        due("take(0)", x.take(0), UNKNOWN);
        due("load(0)", x.load(0), UNKNOWN);
        due("search(0, 1)", x.search(0, 1), UNKNOWN);
        due("free(0)", x.free(0), UNKNOWN);
        due("full(0)", x.full(0), UNKNOWN);
        due("move(0, 0)", x.move(0, 0), UNKNOWN);
        due("at(0, 0)", x.at(0, 0), UNKNOWN);
        due("put(0, 0)", x.put(0, 0), UNKNOWN);
        DUE.sentence("1: THE TRACE is empty");
        due("trace(0)", x.trace(0), UNKNOWN);
        due("trace(199)", x.trace(199), UNKNOWN);
        for (int what = 2; what < 5; what++) {
            due("count(" + what + ")", x.count(what), 0);
        }
        DUE.sentence("1: so it is whatever was done with another object");
        Yard other = used();
        due("count(0) of the new one", x.count(0), 0);
        due("count(2) of the new one", x.count(2), 0);
        due("timber of the new one", x.timber(1, 1, false), 0);
        due("count(0) of the other one", other.count(0), TIMBERS);
    }

    // ---- promise 2

    private static void timber() {
        DUE.sentence("2: a TIMBER: its number");
        due("timber", used().timber(1, 1, true), TIMBERS);
        DUE.sentence("2: OUTSIDE: LENGTH; nothing is changed");
        int[] outside = {LEAST, -1, 0, 1001, MOST};
        for (int length : outside) {
            refused("timber(" + length + ", 1, true)", x -> x.timber(length, 1, true), OUTSIDE);
        }
        DUE.sentence("2: OUTSIDE: WEIGHT; nothing is changed");
        for (int weight : outside) {
            refused("timber(1, " + weight + ", true)", x -> x.timber(1, weight, true), OUTSIDE);
        }
        DUE.sentence("2: ROOM; nothing is changed");
        changesNothing("timber 61", BoundsTest::withAllTimbers, x -> x.timber(7, 7, true), ROOM);
        DUE.sentence("2: OUTSIDE ahead of ROOM");
        changesNothing("timber 61, length 0", BoundsTest::withAllTimbers, x -> x.timber(0, 7, true), OUTSIDE);
        changesNothing("timber 61, length 1001", BoundsTest::withAllTimbers, x -> x.timber(1001, 7, true), OUTSIDE);
        changesNothing("timber 61, weight 0", BoundsTest::withAllTimbers, x -> x.timber(7, 0, true), OUTSIDE);
        changesNothing("timber 61, weight 1001", BoundsTest::withAllTimbers, x -> x.timber(7, 1001, true), OUTSIDE);
    }

    // ---- promise 3

    private static void pile() {
        DUE.sentence("3: a PILE: its number");
        due("pile", used().pile(PLAIN, 1, 0), PILES);
        DUE.sentence("3: OUTSIDE: KIND; nothing is changed");
        int[] kinds = {LEAST, -1, 8, MOST};
        for (int kind : kinds) {
            refused("pile(" + kind + ", 1, 0)", x -> x.pile(kind, 1, 0), OUTSIDE);
        }
        DUE.sentence("3: OUTSIDE: CAP; nothing is changed");
        int[] caps = {LEAST, -1, 0, 13, MOST};
        for (int cap : caps) {
            refused("pile(0, " + cap + ", 0)", x -> x.pile(PLAIN, cap, 0), OUTSIDE);
        }
        DUE.sentence("3: OUTSIDE: LIMIT; nothing is changed");
        int[] limits = {LEAST, -1, 20001, MOST};
        for (int limit : limits) {
            for (int kind = PLAIN; kind <= LEAN; kind++) {
                int of = kind;
                refused("pile(" + kind + ", 1, " + limit + ")", x -> x.pile(of, 1, limit), OUTSIDE);
            }
        }
        DUE.sentence("3: ROOM; nothing is changed");
        changesNothing("pile 13", BoundsTest::withAllPiles, x -> x.pile(PLAIN, 7, 7), ROOM);
        DUE.sentence("3: OUTSIDE ahead of ROOM");
        changesNothing("pile 13, kind 8", BoundsTest::withAllPiles, x -> x.pile(8, 7, 7), OUTSIDE);
        changesNothing("pile 13, cap 13", BoundsTest::withAllPiles, x -> x.pile(PLAIN, 13, 7), OUTSIDE);
        changesNothing("pile 13, limit 20001", BoundsTest::withAllPiles, x -> x.pile(PLAIN, 7, 20001), OUTSIDE);
    }

    // ---- promise 4

    private static void put() {
        DUE.sentence("4: UNKNOWN: a PILE that there is not; nothing is changed");
        for (int pile : NO_PILE) {
            refused("put(" + pile + ", " + ODD + ")", x -> x.put(pile, ODD), UNKNOWN);
        }
        DUE.sentence("4: UNKNOWN: a TIMBER that there is not; nothing is changed");
        for (int timber : NO_TIMBER) {
            for (int pile = 0; pile < PILES; pile++) {
                int on = pile;
                refused("put(" + pile + ", " + timber + ")", x -> x.put(on, timber), UNKNOWN);
            }
        }
        DUE.sentence("4: STATE: it lies in a PILE; nothing is changed");
        for (int pile = 0; pile < PILES; pile++) {
            int on = pile;
            for (int timber = 0; timber < PILES; timber++) {
                int lying = timber;
                refused("put(" + pile + ", " + timber + ")", x -> x.put(on, lying), STATE);
            }
        }
        DUE.sentence("4: the first and the last TIMBER and PILE are known");
        due("put(0, 8)", used().put(0, DRY), 1);
        due("put(7, 9)", used().put(PILES - 1, TIMBERS - 1), 1);
        Yard all = withAllTimbers();
        due("take(0)", all.take(0), 59);
        due("put(0, 0)", all.put(0, 0), 1);
        due("put(0, 59)", all.put(0, 59), 1);
        DUE.sentence("4: a TIMBER on the ground again is no STATE");
        putAgain();
        DUE.sentence("4: UnsupportedOperationException: HEAVY, and 0, if it doesn't lie there: the call was done");
        putRefusedByThePile();
    }

    private static void putAgain() {
        for (int kind = PLAIN; kind <= LEAN; kind++) {
            Yard x = used();
            due("take of kind " + kind, x.take(kind), kind);
            due("put where it lay, kind " + kind, x.put(kind, kind), 1);
            due("put once more, kind " + kind, x.put(kind, kind), STATE);
        }
    }

    private static void putRefusedByThePile() {
        Yard x = used();
        x.timber(1, 1000, false);
        int rules = x.count(2);
        due("put(3, 10)", x.put(STRICT, 10), Yard.HEAVY);
        DUE.done("put(3, 10)", x, rules, 3, 20);
        due("put(3, 10): on the ground", x.of(10, 3), NONE);
        DUE.row("put(3, 10)", x, STRICT, STRICT);
        due("put(1, 8)", x.put(MARKED, DRY), 1);
        rules = x.count(2);
        due("put(1, 9), full", x.put(MARKED, ODD), 0);
        DUE.done("put(1, 9), full", x, rules, 0);
        due("put(1, 9), full: on the ground", x.of(ODD, 3), NONE);
        due("put(1, 9), full: no STATE then", x.put(PLAIN, ODD), 1);
        due("HEAVY once", x.count(3), 1);
    }

    // ---- promises 5 to 9

    private static void take() {
        DUE.sentence("5: UNKNOWN; nothing is changed");
        for (int pile : NO_PILE) {
            refused("take(" + pile + ")", x -> x.take(pile), UNKNOWN);
        }
        DUE.sentence("5: UNKNOWN ahead of NOTHING");
        changesNothing("take(8)", BoundsTest::empty, x -> x.take(PILES), UNKNOWN);
        DUE.sentence("5: the TIMBER; NONE; NullPointerException: NOTHING");
        for (int kind = PLAIN; kind <= LEAN; kind++) {
            boolean nothing = kind == DRYING || kind == OPEN || kind == LEAN;
            Yard x = used();
            due("take(" + kind + ")", x.take(kind), kind);
            due("take(" + kind + "), empty", x.take(kind), nothing ? Yard.NOTHING : NONE);
            due("take(" + kind + "), NOTHING ever", x.count(4), nothing ? 1 : 0);
        }
        DUE.sentence("5: TIMBER 0 and TIMBER 59 come as any other one");
        Yard all = withAllTimbers();
        all.put(0, 0);
        due("take(0)", all.take(0), 0);
        due("take(0)", all.take(0), 59);
        due("take(0)", all.take(0), NONE);
    }

    private static void load() {
        DUE.sentence("6: UNKNOWN; nothing is changed");
        for (int pile : NO_PILE) {
            refused("load(" + pile + ")", x -> x.load(pile), UNKNOWN);
        }
        DUE.sentence("6: the first and the last PILE are known");
        due("load(0)", used().load(0), 4);
        due("load(7)", used().load(PILES - 1), 22);
        due("load(11)", withAllPiles().load(11), 5);
    }

    private static void search() {
        DUE.sentence("7: UNKNOWN; nothing is changed");
        for (int pile : NO_PILE) {
            refused("search(" + pile + ", 1)", x -> x.search(pile, 1), UNKNOWN);
        }
        DUE.sentence("7: OUTSIDE: length is not 1 .. 1000; nothing is changed");
        int[] outside = {LEAST, -1, 0, 1001, MOST};
        for (int length : outside) {
            for (int pile = 0; pile < PILES; pile++) {
                int of = pile;
                refused("search(" + pile + ", " + length + ")", x -> x.search(of, length), OUTSIDE);
            }
        }
        DUE.sentence("7: length 1 and length 1000 are allowed");
        for (int pile = 0; pile < PILES; pile++) {
            boolean wetThere = pile == OPEN;
            due("search(" + pile + ", 1)", used().search(pile, 1), wetThere ? NONE : 0);
            due("search(" + pile + ", 1000)", used().search(pile, 1000), NONE);
        }
        DUE.sentence("7: UNKNOWN ahead of OUTSIDE");
        for (int pile : NO_PILE) {
            refused("search(" + pile + ", 0)", x -> x.search(pile, 0), UNKNOWN);
            refused("search(" + pile + ", 1001)", x -> x.search(pile, 1001), UNKNOWN);
        }
    }

    private static void free() {
        DUE.sentence("8: UNKNOWN; nothing is changed");
        for (int pile : NO_PILE) {
            refused("free(" + pile + ")", x -> x.free(pile), UNKNOWN);
        }
        DUE.sentence("8: the first and the last PILE are known");
        due("free(0)", used().free(0), 1);
        due("free(6)", used().free(OPEN), 1);
        due("free(7)", used().free(PILES - 1), 0);
    }

    private static void full() {
        DUE.sentence("9: UNKNOWN; nothing is changed");
        for (int pile : NO_PILE) {
            refused("full(" + pile + ")", x -> x.full(pile), UNKNOWN);
        }
        DUE.sentence("9: the first and the last PILE are known: 1, 0");
        due("full(0)", used().full(0), 0);
        due("full(7)", used().full(PILES - 1), 1);
        DUE.sentence("9: whether a PLAIN PILE is FULL changes nothing");
        changesNothing("full(0)", BoundsTest::used, x -> x.full(PLAIN), 0);
    }

    // ---- promise 10

    private static void move() {
        DUE.sentence("10: UNKNOWN: the one that is taken from; nothing is changed");
        for (int pile : NO_PILE) {
            refused("move(" + pile + ", 0)", x -> x.move(pile, 0), UNKNOWN);
        }
        DUE.sentence("10: UNKNOWN: the one that is put on; nothing is changed");
        for (int from = 0; from < PILES; from++) {
            for (int pile : NO_PILE) {
                int of = from;
                refused("move(" + from + ", " + pile + ")", x -> x.move(of, pile), UNKNOWN);
            }
        }
        DUE.sentence("10: UNKNOWN ahead of NONE and NOTHING");
        for (int from = 0; from < PILES; from++) {
            int of = from;
            changesNothing("move(" + from + ", 8)", BoundsTest::empty, x -> x.move(of, PILES), UNKNOWN);
        }
        DUE.sentence("10: the TIMBER, if it lies there then, on another one or the same");
        for (int from = 0; from < PILES; from++) {
            for (int to = 0; to < PILES; to++) {
                moved(from, to);
            }
        }
        DUE.sentence("10: NONE, if TAKE was that, or NOTHING");
        for (int from = 0; from < PILES; from++) {
            movedNone(from);
        }
        DUE.sentence("10: -2 less the TIMBER, if PUT was not so (it lies on the ground then)");
        movedOnFull();
        movedFirstAndLast();
        movedOnFullOpen();
        DUE.sentence("10: -2 less the TIMBER, if PUT was HEAVY (it lies on the ground then)");
        movedHeavy();
        DUE.sentence("10: the same PILE, full: TAKE makes the place that PUT needs");
        for (int kind = PLAIN; kind <= LEAN; kind++) {
            movedOnItself(kind);
        }
    }

    private static void moved(int from, int to) {
        String call = "move(" + from + ", " + to + ")";
        Yard x = used();
        due(call, x.move(from, to), from);
        due(call + ": it lies there", x.of(from, 3), to);
        due(call + ": the row of the other one", x.at(from, 0), from == to ? from : UNKNOWN);
        due(call + ": neither HEAVY", x.count(3), 0);
        due(call + ": nor NOTHING", x.count(4), 0);
    }

    private static void movedNone(int from) {
        boolean nothing = from == DRYING || from == OPEN || from == LEAN;
        for (int to = 0; to < PILES; to++) {
            String call = "move(" + from + ", " + to + ")";
            Yard x = empty();
            due(call, x.move(from, to), NONE);
            due(call + ": no PUT", x.count(2), nothing ? 2 : 1);
            due(call + ": NOTHING ever", x.count(4), nothing ? 1 : 0);
            DUE.row(call, x, to);
        }
    }

    private static void movedOnFull() {
        for (int kind = PLAIN; kind <= LEAN; kind++) {
            Yard x = new Yard();
            x.pile(PLAIN, 1, 0);
            x.pile(kind, 1, 100);
            x.timber(5, 2, false);
            x.timber(500, 2, false);
            x.put(1, 0);
            x.put(0, 1);
            due("move on a full one, kind " + kind, x.move(0, 1), -3);
            due("kind " + kind + ": on the ground", x.of(1, 3), NONE);
            DUE.row("kind " + kind + ": none any more", x, 0);
            DUE.row("kind " + kind + ": as it was", x, 1, 0);
            due("kind " + kind + ": no HEAVY", x.count(3), 0);
            due("kind " + kind + ": it can be laid again", x.put(0, 1), 1);
        }
    }

    private static void movedFirstAndLast() {
        Yard x = withAllTimbers();
        x.pile(PLAIN, 1, 0);
        x.put(0, 0);
        x.put(1, 1);
        due("TIMBER 0 on a full one", x.move(0, 1), -2);
        due("TIMBER 59 on a full one", x.move(0, 1), -61);
        due("none left", x.move(0, 1), NONE);
        x.take(1);
        x.put(0, 59);
        x.put(0, 0);
        due("TIMBER 0 on an empty one", x.move(0, 1), 0);
        x.take(1);
        due("TIMBER 59 on an empty one", x.move(0, 1), 59);
    }

    private static void movedOnFullOpen() {
        Yard x = new Yard();
        x.pile(LEAN, 1, 100);
        x.pile(OPEN, 1, 0);
        x.timber(5, 2, false);
        x.timber(5, 4, false);
        x.put(1, 0);
        x.put(0, 1);
        due("from LEAN on a full OPEN one", x.move(0, 1), -3);
        due("what TAKE did stays done", x.of(1, 1), 3);
        due("what PUT did stays done", x.of(1, 2), 1);
        due("on the ground", x.of(1, 3), NONE);
    }

    private static void movedHeavy() {
        Yard x = new Yard();
        x.pile(LEAN, 3, 100);
        x.pile(STRICT, 3, 6);
        x.timber(5, 8, false);
        x.timber(5, 7, false);
        x.put(0, 0);
        x.put(0, 1);
        due("6 of 6, after LEAN", x.move(0, 1), 1);
        x.take(1);
        int rules = x.count(2);
        due("7 of 6, after LEAN", x.move(0, 1), -2);
        DUE.done("7 of 6", x, rules, 17, 10, 3, 20);
        due("on the ground", x.of(0, 3), NONE);
        due("HEAVY ever", x.count(3), 1);
        due("what TAKE did stays done", x.of(0, 1), 7);
        DUE.row("the one is empty", x, 0);
        DUE.row("the other one too", x, 1);
    }

    private static void movedOnItself(int kind) {
        Yard x = new Yard();
        x.pile(kind, 1, 6);
        x.timber(5, 6, true);
        x.put(0, 0);
        due("kind " + kind, x.move(0, 0), 0);
        due("kind " + kind + ": it lies there", x.of(0, 3), 0);
        DUE.row("kind " + kind, x, 0, 0);
        due("kind " + kind + ": dried by DRYING and OPEN", x.of(0, 2), kind == DRYING || kind == OPEN ? 0 : 1);
        due("kind " + kind + ": lighter by LEAN", x.of(0, 1), kind == LEAN ? 5 : 6);
    }

    // ---- promises 11 to 14

    private static void at() {
        DUE.sentence("11: UNKNOWN: a PILE that there is not; nothing is changed");
        for (int pile : NO_PILE) {
            refused("at(" + pile + ", 0)", x -> x.at(pile, 0), UNKNOWN);
        }
        DUE.sentence("11: UNKNOWN: a place that there is not; nothing is changed");
        int[] places = {LEAST, -1, 1, 2, 11, 12, MOST};
        for (int place : places) {
            for (int pile = 0; pile < PILES; pile++) {
                int of = pile;
                refused("at(" + pile + ", " + place + ")", x -> x.at(of, place), UNKNOWN);
            }
        }
        changesNothing("at(0, 0), empty", BoundsTest::empty, x -> x.at(0, 0), UNKNOWN);
        DUE.sentence("11: from 0, the lowest one, on");
        for (int pile = 0; pile < PILES; pile++) {
            int of = pile;
            changesNothing("at(" + pile + ", 0)", BoundsTest::used, x -> x.at(of, 0), pile);
        }
        placesComeAndGo();
    }

    private static void placesComeAndGo() {
        Yard x = new Yard();
        x.pile(PLAIN, 12, 0);
        for (int i = 0; i < 12; i++) {
            due("at(0, " + i + "), not yet", x.at(0, i), UNKNOWN);
            x.timber(5, 5, false);
            x.put(0, i);
            due("at(0, " + i + ")", x.at(0, i), i);
        }
        due("at(0, 12)", x.at(0, 12), UNKNOWN);
        for (int i = 11; i >= 0; i--) {
            x.take(0);
            due("at(0, " + i + "), no more", x.at(0, i), UNKNOWN);
        }
    }

    private static void of() {
        DUE.sentence("12: UNKNOWN; nothing is changed");
        for (int timber : NO_TIMBER) {
            refused("of(" + timber + ", 0)", x -> x.of(timber, 0), UNKNOWN);
        }
        DUE.sentence("12: OUTSIDE: what is not 0 .. 3; nothing is changed");
        int[] outside = {LEAST, -1, 4, MOST};
        for (int what : outside) {
            refused("of(0, " + what + ")", x -> x.of(0, what), OUTSIDE);
            refused("of(9, " + what + ")", x -> x.of(TIMBERS - 1, what), OUTSIDE);
        }
        DUE.sentence("12: UNKNOWN ahead of OUTSIDE");
        for (int timber : NO_TIMBER) {
            refused("of(" + timber + ", -1)", x -> x.of(timber, -1), UNKNOWN);
            refused("of(" + timber + ", 4)", x -> x.of(timber, 4), UNKNOWN);
        }
        DUE.sentence("12: 0 LENGTH, 1 WEIGHT, 2 whether it is WET (1, 0), 3 the PILE in which it lies (NONE)");
        int[] first = {100, 4, 1, 0};
        int[] last = {400, 7, 0, NONE};
        for (int what = 0; what < 4; what++) {
            int asked = what;
            changesNothing("of(0, " + what + ")", BoundsTest::used, x -> x.of(0, asked), first[what]);
            changesNothing("of(9, " + what + ")", BoundsTest::used, x -> x.of(TIMBERS - 1, asked), last[what]);
        }
        due("the last PILE", withAllPiles().of(0, 3), 11);
    }

    private static void trace() {
        int kept = used().count(2);
        DUE.sentence("13: UNKNOWN: a place that there is not; nothing is changed");
        int[] places = {LEAST, -1, kept, kept + 1, 199, 200, MOST};
        for (int place : places) {
            refused("trace(" + place + ")", x -> x.trace(place), UNKNOWN);
        }
        DUE.sentence("13: from 0, the latest one, on");
        changesNothing("trace(0)", BoundsTest::used, x -> x.trace(0), 0);
        changesNothing("trace(1)", BoundsTest::used, x -> x.trace(1), 20);
        changesNothing("the first ever", BoundsTest::used, x -> x.trace(kept - 1), 0);
        DUE.sentence("13: at 200 and more RULES, place 199 is the last one");
        traceAround200();
    }

    private static void traceAround200() {
        Yard x = new Yard();
        x.pile(PLAIN, 1, 0);
        x.free(0);
        for (int i = 1; i < 200; i++) {
            due("trace(" + i + ") of " + i, x.trace(i), UNKNOWN);
            x.load(0);
        }
        due("trace(199) of 200: the first ever", x.trace(199), 40);
        due("trace(200) of 200", x.trace(200), UNKNOWN);
        x.load(0);
        due("trace(199) of 201: the first is gone", x.trace(199), 20);
        due("trace(200) of 201", x.trace(200), UNKNOWN);
        due("count(2) of 201 goes on", x.count(2), 201);
    }

    private static void count() {
        DUE.sentence("14: OUTSIDE: what is not 0 .. 4; nothing is changed");
        int[] outside = {LEAST, -1, 5, MOST};
        for (int what : outside) {
            refused("count(" + what + ")", x -> x.count(what), OUTSIDE);
        }
        DUE.sentence("14: 0 how many TIMBERS, up to 60");
        changesNothing("count(0)", BoundsTest::used, x -> x.count(0), TIMBERS);
        due("count(0) of 60", withAllTimbers().count(0), 60);
        DUE.sentence("14: 1 PILES, up to 12");
        changesNothing("count(1)", BoundsTest::used, x -> x.count(1), PILES);
        due("count(1) of 12", withAllPiles().count(1), 12);
        DUE.sentence("14: 2 RULES done ever, those that THE TRACE has no more too");
        Yard x = new Yard();
        x.pile(LEAN, 2, 100);
        for (int i = 1; i <= 250; i++) {
            x.full(0);
            due("count(2) after " + i + " times FULL", x.count(2), 5 * i);
        }
        DUE.sentence("14: 3 HEAVY ever, by put and by move");
        heavyEver();
        DUE.sentence("14: 4 NOTHING ever, by take and by move");
        nothingEver();
    }

    private static void heavyEver() {
        Yard x = new Yard();
        x.pile(PLAIN, 1, 0);
        x.pile(STRICT, 1, 0);
        x.timber(5, 5, false);
        for (int i = 0; i < 100; i++) {
            due("put", x.put(1, 0), Yard.HEAVY);
        }
        due("count(3)", x.count(3), 100);
        x.put(0, 0);
        due("STATE is not HEAVY", x.put(1, 0), STATE);
        due("count(3)", x.count(3), 100);
        due("move", x.move(0, 1), -2);
        due("count(3)", x.count(3), 101);
        due("count(4)", x.count(4), 0);
    }

    private static void nothingEver() {
        Yard x = new Yard();
        x.pile(DRYING, 1, 0);
        x.pile(PLAIN, 1, 0);
        for (int i = 0; i < 100; i++) {
            due("take", x.take(0), Yard.NOTHING);
        }
        due("count(4)", x.count(4), 100);
        due("NONE is not NOTHING", x.take(1), NONE);
        due("NONE is not NOTHING", x.move(1, 0), NONE);
        due("count(4)", x.count(4), 100);
        due("move", x.move(0, 1), NONE);
        due("count(4)", x.count(4), 101);
        due("count(3)", x.count(3), 0);
    }

    // ---- the codes

    private static void order() {
        DUE.sentence("codes: UNKNOWN ahead of STATE");
        for (int pile : NO_PILE) {
            refused("put(" + pile + ", 0), which lies in a PILE", x -> x.put(pile, 0), UNKNOWN);
        }
        DUE.sentence("codes: STATE ahead of HEAVY");
        for (int kind = STRICT; kind <= LEAN; kind += 2) {
            int on = kind;
            changesNothing("put(0, 0) of kind " + kind, () -> atLimit(on), x -> x.put(0, 0), STATE);
        }
        DUE.sentence("codes: STATE ahead of 0 of a full PILE");
        for (int kind = PLAIN; kind <= LEAN; kind++) {
            int on = kind;
            changesNothing("put(0, 0) of kind " + kind, () -> atLimit(on), x -> x.put(0, 0), STATE);
        }
        DUE.sentence("codes: UNKNOWN ahead of HEAVY");
        changesNothing("put(0, 1)", () -> atLimit(STRICT), x -> x.put(0, 1), UNKNOWN);
        DUE.sentence("codes: STATE ahead of what OPEN does");
        refused("put(6, 5), odd and dry in another PILE", x -> x.put(OPEN, 5), STATE);
    }

    /** One timber on a pile that is full and has its limit by it. */
    private static Yard atLimit(int kind) {
        Yard x = new Yard();
        x.pile(kind, 1, 5);
        x.timber(5, 5, false);
        x.put(0, 0);
        return x;
    }
}
