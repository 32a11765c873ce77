/** Objects in which the calls of the tests are made. */
final class Situations {
    /** A text of a sheet with all parts. */
    static final String TEXT = "S32m00a02m10b02m10x36m21c36m01-02m11y15v3g1p1371";

    private Situations() {
    }

    /**
     * Three columns, two rows: at (0, 0) no mark, at (1, 0) two, the mark 1 decided for the letter 0, at
     * (1, 1) a doubtful one. The words are "xd", "-" and "b", "c". Four states are remembered, a state is
     * saved in the slot 0, none in the slot 1, and the text is a sheet.
     */
    static CrossedSheet used() {
        CrossedSheet x = Checks.loaded(TEXT);
        x.write(2, 0, 3, 0, 3);
        x.save(0);
        x.decide(1, 0, 1, 0);
        x.setMargin(4);
        x.erase(0, 0, 0);
        return x;
    }

    static CrossedSheet usedWithoutSheet() {
        CrossedSheet x = used();
        x.append('m');
        return x;
    }

    static CrossedSheet usedWithoutText() {
        CrossedSheet x = used();
        x.clearText();
        return x;
    }

    /** The text has 120 characters. */
    static CrossedSheet fullText() {
        CrossedSheet x = used();
        Checks.type(x, "v7".repeat((120 - TEXT.length()) / 2));
        return x;
    }

    /** A saved state, but none that is remembered. */
    static CrossedSheet nothingRemembered() {
        CrossedSheet x = Checks.loaded(TEXT);
        x.decide(1, 0, 1, 0);
        x.save(1);
        x.undo();
        return x;
    }

    /** 14 states are remembered, and more have been. */
    static CrossedSheet fullOfStates() {
        CrossedSheet x = Checks.loaded("S21m00a02");
        x.write(0, 0, 1, 3, 6);
        for (int i = 0; i < 20; i++) {
            x.setMargin(i % 10);
        }
        return x;
    }

    /** Both save slots hold a state. */
    static CrossedSheet bothSaved() {
        CrossedSheet x = used();
        x.save(1);
        x.setGap(3);
        return x;
    }
}
