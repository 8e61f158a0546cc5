import java.util.ArrayList;
import java.util.List;

/**
 * The document once more, told in another way than the class: no kinds as classes, but one table of
 * which kind stands upon which, and rules looked up by number.
 */
final class Model {
    private static final int[] UNDER = {-1, 0, 1, 1, 2, 3, 4, 5};
    private static final String TOLD = " 0 10 20 30 40 2 3 6 14 17 25 26 35 34 43 47 ";
    private static final int PUT = 0, TAKE = 1, LOAD = 2, SEARCH = 3, FREE = 4;

    private static final class Heavy extends RuntimeException {
        private static final long serialVersionUID = 1;
    }

    private static final class Nothing extends RuntimeException {
        private static final long serialVersionUID = 1;
    }

    private static final class Timber {
        int number;
        int length;
        int weight;
        boolean wet;
        int pile = -1;
    }

    private static final class Pile {
        int number;
        int kind;
        int cap;
        int limit;
        List<Timber> row = new ArrayList<>();
    }

    private final List<Timber> timbers = new ArrayList<>();
    private final List<Pile> piles = new ArrayList<>();
    private final List<Integer> rules = new ArrayList<>();
    private int heavies;
    private int nothings;

    /** The act as a kind has it: the argument is a timber's number or a length. */
    private int act(Pile p, int act, int kind, int argument) {
        int teller = kind;
        while (!TOLD.contains(" " + (10 * act + teller) + " ")) {
            teller = UNDER[teller];
        }
        rules.add(10 * act + teller);
        switch (10 * act + teller) {
            case 0: return putPlain(p, timbers.get(argument));
            case 2: return putSorted(p, timbers.get(argument));
            case 3: return putStrict(p, timbers.get(argument));
            case 6: return putOpen(p, timbers.get(argument));
            case 10: return takePlain(p);
            case 14: return takeDrying(p);
            case 17: return takeLean(p);
            case 20: return p.row.stream().mapToInt(t -> t.weight).sum();
            case 25: return 2 * act(p, LOAD, 3, 0);
            case 26: return act(p, LOAD, 4, 0) + 10 * (int) p.row.stream().filter(t -> t.wet).count();
            case 30: return p.row.indexOf(p.row.stream().filter(t -> t.length >= argument).findFirst().orElse(null));
            case 35: return searchTwofold(p, argument);
            case 34: return searchDrying(p, argument);
            case 40: return p.cap - p.row.size();
            case 43: return act(p, LOAD, p.kind, 0) >= p.limit ? 0 : act(p, FREE, 1, 0);
            default: return Math.max(act(p, FREE, 5, 0) - 1, 0);
        }
    }

    private int putPlain(Pile p, Timber t) {
        if (p.row.size() == p.cap) {
            return 0;
        }
        p.row.add(t);
        t.pile = p.number;
        return 1;
    }

    private int putSorted(Pile p, Timber t) {
        if (act(p, PUT, 1, t.number) == 0) {
            return 0;
        }
        int i = p.row.indexOf(t);
        while (i > 0 && p.row.get(i - 1).length < t.length) {
            java.util.Collections.swap(p.row, i, i - 1);
            i--;
        }
        return 1;
    }

    private int putStrict(Pile p, Timber t) {
        if (act(p, LOAD, p.kind, 0) + t.weight > p.limit) {
            heavies++;
            throw new Heavy();
        }
        return act(p, PUT, 1, t.number);
    }

    private int putOpen(Pile p, Timber t) {
        t.wet |= (t.weight & 1) == 1;
        return act(p, PUT, 4, t.number);
    }

    private int takePlain(Pile p) {
        if (p.row.isEmpty()) {
            return -1;
        }
        Timber t = p.row.remove(p.row.size() - 1);
        t.pile = -1;
        return t.number;
    }

    private Timber orNothing(int answer) {
        if (answer == -1) {
            nothings++;
            throw new Nothing();
        }
        return timbers.get(answer);
    }

    private int takeDrying(Pile p) {
        Timber t = orNothing(act(p, TAKE, 2, 0));
        if (!t.wet) {
            return t.number;
        }
        t.wet = false;
        act(p, PUT, p.kind, t.number);
        return act(p, TAKE, 2, 0);
    }

    private int takeLean(Pile p) {
        Timber t = orNothing(act(p, TAKE, 5, 0));
        t.weight = t.weight == 1 ? 1 : t.weight - 1;
        return t.number;
    }

    private int searchTwofold(Pile p, int length) {
        int place = act(p, SEARCH, 3, length);
        return place == -1 ? act(p, SEARCH, 3, length / 2) : place;
    }

    private int searchDrying(Pile p, int length) {
        int place = act(p, SEARCH, 2, length);
        return place == -1 || p.row.get(place).wet ? -1 : place;
    }

    private static boolean within(int value, int least, int most) {
        return least <= value && value <= most;
    }

    private boolean noPile(int pile) {
        return !within(pile, 0, piles.size() - 1);
    }

    int timber(int length, int weight, boolean wet) {
        if (!within(length, 1, 1000) || !within(weight, 1, 1000)) {
            return -102;
        }
        if (timbers.size() == 60) {
            return -104;
        }
        Timber t = new Timber();
        t.number = timbers.size();
        t.length = length;
        t.weight = weight;
        t.wet = wet;
        timbers.add(t);
        return t.number;
    }

    int pile(int kind, int cap, int limit) {
        if (!within(kind, 0, 7) || !within(cap, 1, 12) || !within(limit, 0, 20000)) {
            return -102;
        }
        if (piles.size() == 12) {
            return -104;
        }
        Pile p = new Pile();
        p.number = piles.size();
        p.kind = kind;
        p.cap = cap;
        p.limit = limit;
        piles.add(p);
        return p.number;
    }

    int put(int pile, int timber) {
        if (noPile(pile) || !within(timber, 0, timbers.size() - 1)) {
            return -101;
        }
        if (timbers.get(timber).pile != -1) {
            return -103;
        }
        Pile p = piles.get(pile);
        try {
            return act(p, PUT, p.kind, timber);
        } catch (Heavy e) {
            return Yard.HEAVY;
        }
    }

    int take(int pile) {
        if (noPile(pile)) {
            return -101;
        }
        Pile p = piles.get(pile);
        try {
            return act(p, TAKE, p.kind, 0);
        } catch (Nothing e) {
            return Yard.NOTHING;
        }
    }

    private int ask(int pile, int act, int argument) {
        return noPile(pile) ? -101 : act(piles.get(pile), act, piles.get(pile).kind, argument);
    }

    int load(int pile) {
        return ask(pile, LOAD, 0);
    }

    int search(int pile, int length) {
        return !noPile(pile) && !within(length, 1, 1000) ? -102 : ask(pile, SEARCH, length);
    }

    int free(int pile) {
        return ask(pile, FREE, 0);
    }

    int full(int pile) {
        if (noPile(pile)) {
            return -101;
        }
        Pile p = piles.get(pile);
        boolean full = p.kind == 0 ? p.row.size() == p.cap : free(pile) == 0;
        return full ? 1 : 0;
    }

    int move(int from, int to) {
        if (noPile(from) || noPile(to)) {
            return -101;
        }
        int t = take(from);
        if (t == -1 || t == Yard.NOTHING) {
            return -1;
        }
        return put(to, t) == 1 ? t : -2 - t;
    }

    int at(int pile, int i) {
        if (noPile(pile) || !within(i, 0, piles.get(pile).row.size() - 1)) {
            return -101;
        }
        return piles.get(pile).row.get(i).number;
    }

    int of(int timber, int what) {
        if (!within(timber, 0, timbers.size() - 1)) {
            return -101;
        }
        Timber t = timbers.get(timber);
        int[] answers = {t.length, t.weight, t.wet ? 1 : 0, t.pile};
        return within(what, 0, 3) ? answers[what] : -102;
    }

    int trace(int i) {
        return within(i, 0, Math.min(200, rules.size()) - 1) ? rules.get(rules.size() - 1 - i) : -101;
    }

    int count(int what) {
        int[] answers = {timbers.size(), piles.size(), rules.size(), heavies, nothings};
        return within(what, 0, 4) ? answers[what] : -102;
    }
}
