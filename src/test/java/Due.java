/** Compares answers with what is due, and prints those that differ. */
final class Due {
    static final int HEAVY = -1001;
    static final int NOTHING = -1002;
    static final int STRAY = -1003;

    private int wrong;
    private int asked;

    void same(String call, long got, long want) {
        asked++;
        if (got != want) {
            wrong++;
            System.out.println(call + " answered " + got + ", due is " + want);
        }
    }

    /** The rules that were done latest, the latest one first. */
    void traced(String call, PileHeirs yard, int... rules) {
        for (int i = 0; i < rules.length; i++) {
            same(call + ", then trace(" + i + ")", yard.trace(i), rules[i]);
        }
    }

    void end(String name) {
        System.out.println(name + ": " + asked + " answers, " + wrong + " not as due");
        if (wrong != 0 || asked == 0) {
            System.exit(1);
        }
    }

    static int put(PileHeirs yard, int pile, int timber) {
        try {
            return yard.put(pile, timber);
        } catch (UnsupportedOperationException e) {
            return e.getClass() == UnsupportedOperationException.class ? HEAVY : STRAY;
        }
    }

    static int take(PileHeirs yard, int pile) {
        try {
            return yard.take(pile);
        } catch (NullPointerException e) {
            // the document's exception is thrown at the face; one from deeper inside would be a fault
            StackTraceElement[] frames = e.getStackTrace();
            boolean atTheFace = frames.length > 0 && frames[0].getClassName().equals("PileHeirs")
                    && frames[0].getMethodName().equals("take");
            return atTheFace ? NOTHING : STRAY;
        }
    }
}
