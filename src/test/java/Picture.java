/**
 * All that can be seen of a yard, as a text: first by looks, which change nothing, then by acts until
 * the piles are empty, so that a change that no look shows is seen as well. The yard is used up by it.
 */
final class Picture {
    private final Yard yard;
    private final StringBuilder text = new StringBuilder();

    private Picture(Yard yard) {
        this.yard = yard;
    }

    static String of(Yard yard) {
        Picture picture = new Picture(yard);
        int timbers = yard.count(0);
        int piles = yard.count(1);
        picture.counts();
        picture.trace();
        picture.timbers(timbers);
        for (int pile = 0; pile < piles; pile++) {
            picture.row(pile);
        }
        for (int pile = 0; pile < piles; pile++) {
            picture.acts(pile);
        }
        picture.counts();
        return picture.text.toString();
    }

    private void add(int answer) {
        text.append(' ').append(answer);
    }

    private void counts() {
        text.append(" counts");
        for (int what = 0; what < 5; what++) {
            add(yard.count(what));
        }
    }

    private void trace() {
        text.append(" trace");
        int rule = yard.trace(0);
        for (int i = 1; rule != PileHeirs.UNKNOWN; i++) {
            add(rule);
            rule = yard.trace(i);
        }
    }

    private void timbers(int howMany) {
        for (int timber = 0; timber < howMany; timber++) {
            text.append(" timber");
            for (int what = 0; what < 4; what++) {
                add(yard.of(timber, what));
            }
        }
    }

    private void row(int pile) {
        text.append(" pile");
        int timber = yard.at(pile, 0);
        for (int i = 1; timber != PileHeirs.UNKNOWN; i++) {
            add(timber);
            timber = yard.at(pile, i);
        }
    }

    private void acts(int pile) {
        text.append(" acts");
        add(yard.load(pile));
        add(yard.free(pile));
        add(yard.full(pile));
        add(yard.search(pile, 1));
        int timber = 0;
        while (timber >= 0) {
            timber = yard.take(pile);
            add(timber);
        }
    }
}
