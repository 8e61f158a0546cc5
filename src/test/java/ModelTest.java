import java.util.Random;

/** Many runs of up to 512 calls, made from written seeds: the class and the model answer the same. */
public final class ModelTest {
    private static final int RUNS = 2000;
    // what the dearest look at the end takes: four answers of each of 60 timbers
    private static final int LOOK = 240;
    private static final int[] EXTREMES = {Integer.MIN_VALUE, -1, 0, 1001, 20001, Integer.MAX_VALUE};

    private static final int MOST_A_STEP = 4;
    private static final Due DUE = new Due();

    private final Random random;
    private final Yard yard = new Yard();
    private final Model model = new Model();
    private final int mostSize;
    private final int mostLimit;
    private final String run;

    private ModelTest(int seed) {
        random = new Random(seed);
        // small sizes make ties, limits that are met exactly, and timbers that wear down to 1
        mostSize = seed % 2 == 0 ? 12 : 1000;
        mostLimit = seed % 2 == 0 ? 60 : 20000;
        run = "seed " + seed + ": ";
    }

    public static void main(String[] args) {
        for (int seed = 0; seed < RUNS; seed++) {
            new ModelTest(seed).runOf(seed);
        }
        DUE.end("ModelTest");
    }

    /** One run in four spends all its calls on acts; the others keep some for a look at the end. */
    private void runOf(int seed) {
        int look = seed / 2 % 4;
        int kept = look == 0 ? 0 : LOOK;
        while (yard.callsLeft() >= kept + MOST_A_STEP) {
            step();
        }
        switch (look) {
            case 1: lookAtTrace(); break;
            case 2: lookAtTimbers(); break;
            case 3: lookAtPiles(); break;
            default: break;
        }
    }

    private int some(int least, int most) {
        return random.nextInt(40) == 0 ? EXTREMES[random.nextInt(EXTREMES.length)]
                : least + random.nextInt(most - least + 1);
    }

    private int somePile() {
        return some(0, Math.max(0, model.count(1) - 1));
    }

    private int someTimber() {
        return some(0, Math.max(0, model.count(0) - 1));
    }

    private void same(String call, int got, int want) {
        DUE.same(run + call, got, want);
    }

    private void step() {
        int p = somePile();
        int q = somePile();
        int t = someTimber();
        int length = some(1, mostSize);
        switch (random.nextInt(16)) {
            case 0: makeTimber(length); break;
            case 1: makePile(); break;
            case 2: same("load " + p, yard.load(p), model.load(p)); break;
            case 3: same("search " + p + " " + length, yard.search(p, length), model.search(p, length)); break;
            case 4: same("free " + p, yard.free(p), model.free(p)); break;
            case 5: same("full " + p, yard.full(p), model.full(p)); break;
            case 6: case 7: same("move " + p + " " + q, yard.move(p, q), model.move(p, q)); break;
            case 8: case 9: same("take " + p, yard.take(p), model.take(p)); break;
            case 10: look(p, t); break;
            default: same("put " + p + " " + t, yard.put(p, t), model.put(p, t)); break;
        }
    }

    private void makeTimber(int length) {
        int weight = some(1, mostSize);
        boolean wet = random.nextBoolean();
        same("timber", yard.timber(length, weight, wet), model.timber(length, weight, wet));
    }

    private void makePile() {
        int kind = some(0, 7);
        int cap = some(1, 12);
        int limit = some(0, mostLimit);
        same("pile", yard.pile(kind, cap, limit), model.pile(kind, cap, limit));
    }

    private void look(int p, int t) {
        int i = some(0, 12);
        int what = some(0, 5);
        int place = some(0, 205);
        same("at " + p + " " + i, yard.at(p, i), model.at(p, i));
        same("of " + t + " " + what, yard.of(t, what), model.of(t, what));
        same("trace " + place, yard.trace(place), model.trace(place));
        same("count " + what, yard.count(what), model.count(what));
    }

    private void lookAtTrace() {
        for (int i = -1; i < 202; i++) {
            same("end: trace " + i, yard.trace(i), model.trace(i));
        }
        for (int what = -1; what < 6; what++) {
            same("end: count " + what, yard.count(what), model.count(what));
        }
    }

    private void lookAtTimbers() {
        for (int t = 0; t < 60; t++) {
            for (int what = 0; what < 4; what++) {
                same("end: of " + t + " " + what, yard.of(t, what), model.of(t, what));
            }
        }
    }

    private void lookAtPiles() {
        for (int p = 0; p < 12; p++) {
            for (int i = -1; i < 14; i++) {
                same("end: at " + p + " " + i, yard.at(p, i), model.at(p, i));
            }
        }
    }
}
