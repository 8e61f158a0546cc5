/** Compares answers with what is due, and prints those that differ. */
final class Due {
    private String sentence = "";
    private int wrong;
    private int asked;
    private int sentences;
    private int askedBefore;

    /** From here on the answers belong to this sentence of the document. */
    void sentence(String told) {
        noteEmptySentence();
        sentence = "[" + told + "] ";
        sentences++;
        askedBefore = asked;
    }

    private void noteEmptySentence() {
        if (sentences > 0 && asked == askedBefore) {
            wrong++;
            System.out.println(sentence + "is not tested");
        }
    }

    void same(String call, long got, long want) {
        asked++;
        if (got != want) {
            wrong++;
            System.out.println(sentence + call + " answered " + got + ", due is " + want);
        }
    }

    void same(String call, String got, String want) {
        asked++;
        if (!got.equals(want)) {
            wrong++;
            System.out.println(sentence + call + " left\n  " + got + "\n, due is\n  " + want);
        }
    }

    /** The rules that were done latest, the latest one first. */
    void traced(String call, Yard yard, int... rules) {
        for (int i = 0; i < rules.length; i++) {
            same(call + ", then trace(" + i + ")", yard.trace(i), rules[i]);
        }
    }

    /** The rules that were done since there were so many, in the order in which they began. */
    void done(String call, Yard yard, int before, int... rules) {
        same(call + ": how many rules", yard.count(2) - before, rules.length);
        for (int i = 0; i < rules.length; i++) {
            same(call + ": rule " + i, yard.trace(rules.length - 1 - i), rules[i]);
        }
    }

    /** The whole row of a pile, the lowest first, and nothing above it. */
    void row(String call, Yard yard, int pile, int... timbers) {
        for (int i = 0; i < timbers.length; i++) {
            same(call + ", then at(" + pile + ", " + i + ")", yard.at(pile, i), timbers[i]);
        }
        same(call + ", then at above the row", yard.at(pile, timbers.length), PileHeirs.UNKNOWN);
    }

    void end(String name) {
        noteEmptySentence();
        String told = sentences == 0 ? "" : sentences + " sentences, ";
        System.out.println(name + ": " + told + asked + " answers, " + wrong + " not as due");
        if (wrong != 0 || asked == 0) {
            System.exit(1);
        }
    }
}
