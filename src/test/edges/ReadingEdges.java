/** The promises 6 to 12: what there is. */
final class ReadingEdges {
    static final Runnable[] ALL = {ReadingEdges::section, ReadingEdges::about, ReadingEdges::aboutBounds,
        ReadingEdges::letter, ReadingEdges::letterBounds, ReadingEdges::marks, ReadingEdges::mark,
        ReadingEdges::markBounds, ReadingEdges::wordLength, ReadingEdges::sign, ReadingEdges::wordAt};

    private ReadingEdges() {
    }

    private static void section() {
        Checks.says("Terms", "Ahead of the calls `about`, `letter`, `marks`, `mark`, `wordLength`, `sign`,"
            + " `wordAt` the interface says: ---- what there is.");
        for (int number = 0; number < 10; number++) {
            int what = number;
            Checks.changesNothing(x -> x.about(what));
            Checks.changesNothing(x -> x.letter(what % 2, what / 2));
            Checks.changesNothing(x -> x.mark(1, 0, 1, what % 8));
        }
        Checks.changesNothing(x -> x.marks(1, 0));
        Checks.changesNothing(x -> x.wordLength(0, 1));
        Checks.changesNothing(x -> x.sign(0, 1, 1));
        Checks.changesNothing(x -> x.wordAt(0, 0, 1));
    }

    /** The numbers from 2 to 9, but for margin and gap. */
    private static void isAbout(CrossedSheet x, int marks, int doubtful, int decided, int full, int first,
        int second) {
        int[] due = {marks, doubtful, decided, x.about(5), x.about(6), full, first, second};
        for (int what = 2; what < 10; what++) {
            Checks.is(due[what - 2], x.about(what));
        }
    }

    private static void about() {
        Checks.says("Promise 6", "Returns a number.");
        isAbout(Situations.used(), 6, 1, 1, 1, 3, 2);
        Checks.says("Promise 6", "`what`: 0: W; 1: H; 2: the number of marks; 3: of doubtful marks; 4: of decided"
            + " marks; 5: the margin; 6: the gap; 7: the number of cells with two marks; 8: of marks that belong"
            + " to the letter 0; 9: of marks that belong to the letter 1");
        CrossedSheet x = Checks.loaded("S19v0g1");
        Checks.is(1, x.about(0));
        Checks.is(9, x.about(1));
        Checks.is(0, x.about(5));
        Checks.is(1, x.about(6));
        isAbout(x, 0, 0, 0, 0, 0, 0);
        CrossedSheet y = Checks.loaded("S91v9g3m00-02");
        Checks.is(9, y.about(0));
        Checks.is(1, y.about(1));
        Checks.is(9, y.about(5));
        Checks.is(3, y.about(6));
        isAbout(y, 1, 0, 0, 0, 1, 0);
        CrossedSheet full = Checks.loaded("S99p0150p1151");
        for (int mark = 0; mark < 162; mark++) {
            full.write(mark / 2 % 9, mark / 18, 26, 1, 5);
        }
        isAbout(full, 162, 162, 0, 81, 0, 0);
        for (int mark = 0; mark < 162; mark++) {
            full.decide(mark / 2 % 9, mark / 18, mark % 2, mark % 2);
        }
        isAbout(full, 162, 0, 162, 81, 81, 81);
        CrossedSheet oneLetter = Checks.loaded("S99p0080p1300");
        for (int cell = 0; cell < 81; cell++) {
            oneLetter.write(cell % 9, cell / 9, 26, 3, 0);
        }
        isAbout(oneLetter, 81, 0, 0, 0, 0, 81);
        for (String text : new String[] {"S91m80a02m80b36", "S19m08a02m08b36", "S99m88a02m88b36"}) {
            CrossedSheet corner = Checks.loaded(text);
            int cx = corner.about(0) - 1;
            int cy = corner.about(1) - 1;
            corner.decide(cx, cy, 1, 1);
            isAbout(corner, 2, 0, 1, 1, 1, 1);
            corner.decide(cx, cy, 0, 0);
            isAbout(corner, 2, 0, 2, 1, 1, 1);
        }
        Checks.says("Promise 6", "Returns that number.");
        CrossedSheet mixed = Checks.loaded("S34m00a02m00b36m10c15m11d14m21e36m22f02m22g02");
        isAbout(mixed, 7, 3, 0, 2, 2, 2);
        mixed.decide(1, 0, 0, 1);
        isAbout(mixed, 7, 2, 1, 2, 2, 3);
        mixed.decide(2, 2, 1, 1);
        isAbout(mixed, 7, 0, 2, 2, 3, 4);
        mixed.erase(2, 2, 0);
        isAbout(mixed, 6, 0, 2, 1, 2, 4);
        mixed.erase(2, 2, 0);
        isAbout(mixed, 5, 0, 1, 1, 2, 3);
    }

    private static void aboutBounds() {
        Checks.says("Promise 6", "Throws `IllegalArgumentException` if what is not 0 to 9");
        for (int what : Checks.outside(0, 9)) {
            Checks.refused(Checks.ARGUMENT, x -> x.about(what));
            Checks.refusedIn(CrossedSheet::new, Checks.ARGUMENT, x -> x.about(what));
        }
    }

    private static void letter() {
        Checks.says("Promise 7", "Returns a number of a letter.");
        CrossedSheet used = Situations.used();
        int[][] due = {{0, 2, 0, 2, 2}, {3, 7, 1, 2, 1}};
        for (int number = 0; number < 10; number++) {
            Checks.is(due[number % 2][number / 2], used.letter(number % 2, number / 2));
        }
        Checks.says("Promise 7", "`k`: letter");
        Checks.is(381, Checks.pen(Checks.loaded("S11p0381p1000"), 0));
        Checks.is(0, Checks.pen(Checks.loaded("S11p0381p1000"), 1));
        Checks.says("Promise 7", "`what`: 0: its ink; 1: its slant; 2: its way; 3: the number of its words; 4:"
            + " the number of signs of its longest word (0 without words)");
        for (int k = 0; k < 2; k++) {
            Checks.is(0, new CrossedSheet().letter(k, 3));
            Checks.is(0, new CrossedSheet().letter(k, 4));
            Checks.is(0, Checks.loaded("S11m00a15").letter(k, 4));
            CrossedSheet some = WordEdges.drawn(k, 1, 2, "a..bc..d.", "efg-.....", "h........");
            Checks.is(4, some.letter(k, 3));
            Checks.is(4, some.letter(k, 4));
            Checks.is(1, WordEdges.drawn(k, 0, 1, "a.b").letter(k, 4));
            Checks.is(2, WordEdges.drawn(k, 0, 1, "a.bc").letter(k, 4));
            Checks.is(2, WordEdges.drawn(k, 0, 1, "ab.c").letter(k, 4));
        }
        Checks.says("Promise 7", "Returns that number.");
        String line = "a.a.a.a.a";
        CrossedSheet most = WordEdges.drawn(0, 0, 1, line, line, line, line, line, line, line, line, line);
        Checks.is(45, most.letter(0, 3));
        Checks.is(1, most.letter(0, 4));
        String hyphens = "---------";
        CrossedSheet longest = WordEdges.drawn(1, 0, 1, hyphens, hyphens, hyphens, hyphens, hyphens, hyphens, hyphens,
            hyphens, hyphens);
        Checks.is(1, longest.letter(1, 3));
        Checks.is(73, longest.letter(1, 4));
    }

    private static void letterBounds() {
        Checks.says("Promise 7", "Throws `IndexOutOfBoundsException` if there is no such letter");
        for (int k : Checks.outside(0, 1)) {
            Checks.refused(Checks.BOUNDS, x -> x.letter(k, 0));
            Checks.refused(Checks.BOUNDS, x -> x.letter(k, 4));
        }
        Checks.says("Promise 7", "Throws `IllegalArgumentException` if what is not 0 to 4");
        for (int what : Checks.outside(0, 4)) {
            Checks.refused(Checks.ARGUMENT, x -> x.letter(0, what));
            Checks.refused(Checks.ARGUMENT, x -> x.letter(1, what));
        }
    }

    private static void marks() {
        Checks.says("Promise 8", "Counts the marks of a cell.");
        CrossedSheet x = Situations.used();
        int[] due = {0, 1, 2, 1, 1, 1};
        for (int cell = 0; cell < 6; cell++) {
            Checks.is(due[cell], x.marks(cell / 2, cell % 2));
        }
        Checks.says("Promise 8", "`x`: column");
        Checks.is(1, Checks.loaded("S92m80a02").marks(8, 0));
        Checks.is(0, Checks.loaded("S92m80a02").marks(0, 1));
        Checks.says("Promise 8", "`y`: row");
        Checks.is(1, Checks.loaded("S29m08a02").marks(0, 8));
        Checks.is(0, Checks.loaded("S29m08a02").marks(1, 0));
        Checks.says("Promise 8", "Returns the number of its marks.");
        CrossedSheet corner = Checks.loaded("S99");
        for (int marks = 0; marks < 2; marks++) {
            Checks.is(marks, corner.marks(8, 8));
            corner.write(8, 8, 0, 0, 0);
        }
        Checks.is(2, corner.marks(8, 8));
        corner.erase(8, 8, 1);
        Checks.is(1, corner.marks(8, 8));
        corner.erase(8, 8, 0);
        Checks.is(0, corner.marks(8, 8));
        Checks.says("Promise 8", "Throws `IndexOutOfBoundsException` if there is no such cell");
        for (int column : Checks.outside(0, 2)) {
            Checks.refused(Checks.BOUNDS, y -> y.marks(column, 0));
            Checks.refused(Checks.BOUNDS, y -> y.marks(column, 1));
        }
        for (int row : Checks.outside(0, 1)) {
            Checks.refused(Checks.BOUNDS, y -> y.marks(0, row));
            Checks.refused(Checks.BOUNDS, y -> y.marks(2, row));
        }
    }

    private static void mark() {
        Checks.says("Promise 9", "Returns a number of a mark.");
        CrossedSheet x = Situations.used();
        int[][] due = {{1, 0, 2, Checks.NONE, 1, 2, 0, 14}, {23, 3, 6, 0, 0, 1, 13, 1}};
        for (int i = 0; i < 2; i++) {
            for (int what = 0; what < 8; what++) {
                Checks.is(due[i][what], x.mark(1, 0, i, what));
            }
        }
        Checks.says("Promise 9", "`x`: column");
        Checks.is(5, Checks.loaded("S92m80f02").mark(8, 0, 0, 0));
        Checks.says("Promise 9", "`y`: row");
        Checks.is(6, Checks.loaded("S29m08g02").mark(0, 8, 0, 0));
        Checks.says("Promise 9", "`i`: mark");
        Checks.is(1, Checks.loaded("S11m00a02m00b02").mark(0, 0, 1, 0));
        Checks.says("Promise 9", "`what`: 0: its sign; 1: its ink; 2: its slant; 3: the letter for which it is"
            + " decided, NONE if for none; 4: the letter to which it belongs, NONE if it is doubtful; 5: the"
            + " number, 1 to 5, of the rule that tells this; 6: its distance from the letter 0; 7: its distance"
            + " from the letter 1");
        CrossedSheet y = Checks.loaded("S11m00-38p0000p1380");
        int[] first = {26, 3, 8, Checks.NONE, 1, 3, 17, 0};
        int[] doubtful = {26, 3, 8, Checks.NONE, Checks.NONE, 5, 17, 17};
        int[] decided = {26, 3, 8, 1, 1, 1, 17, 17};
        for (int what = 0; what < 8; what++) {
            Checks.is(first[what], y.mark(0, 0, 0, what));
        }
        y.setLetter(1, 0, 0, 0);
        for (int what = 0; what < 8; what++) {
            Checks.is(doubtful[what], y.mark(0, 0, 0, what));
        }
        y.decide(0, 0, 0, 1);
        for (int what = 0; what < 8; what++) {
            Checks.is(decided[what], y.mark(0, 0, 0, what));
        }
        Checks.says("Promise 9", "Returns that number.");
        CrossedSheet zero = Checks.loaded("S11m00a00p0000m00z38");
        int[] least = {0, 0, 0, Checks.NONE, 0, 4, 0, 15};
        for (int what = 0; what < 8; what++) {
            Checks.is(least[what], zero.mark(0, 0, 0, what));
        }
    }

    private static void markBounds() {
        Checks.says("Promise 9", "Throws `IndexOutOfBoundsException` if there is no such cell or mark");
        for (int column : Checks.outside(0, 2)) {
            Checks.refused(Checks.BOUNDS, x -> x.mark(column, 0, 0, 0));
        }
        for (int row : Checks.outside(0, 1)) {
            Checks.refused(Checks.BOUNDS, x -> x.mark(1, row, 0, 7));
        }
        for (int i : Checks.outside(0, 1)) {
            Checks.refused(Checks.BOUNDS, x -> x.mark(1, 0, i, 4));
        }
        for (int i : Checks.outside(0, 0)) {
            Checks.refused(Checks.BOUNDS, x -> x.mark(2, 0, i, 5));
        }
        Checks.refused(Checks.BOUNDS, x -> x.mark(0, 0, 0, 0));
        Checks.refused(Checks.BOUNDS, x -> x.mark(0, 0, -1, 0));
        Checks.says("Promise 9", "Throws `IllegalArgumentException` if what is not 0 to 7");
        for (int what : Checks.outside(0, 7)) {
            Checks.refused(Checks.ARGUMENT, x -> x.mark(1, 0, 0, what));
            Checks.refused(Checks.ARGUMENT, x -> x.mark(1, 0, 1, what));
        }
    }

    private static void wordLength() {
        Checks.says("Promise 10", "Returns the number of signs of a word.");
        Checks.is(2, Situations.used().wordLength(0, 0));
        Checks.is(1, Situations.used().wordLength(0, 1));
        Checks.says("Promise 10", "`k`: letter");
        Checks.is(1, Situations.used().wordLength(1, 0));
        Checks.says("Promise 10", "`n`: word");
        String line = "a.a.a.a.a";
        CrossedSheet most = WordEdges.drawn(1, 1, 1, line, line, line, line, line, line, line, line, "a.a.a.abc");
        Checks.is(1, most.wordLength(1, 0));
        Checks.is(1, most.wordLength(1, 42));
        Checks.is(3, most.wordLength(1, 43));
        Checks.fails(Checks.BOUNDS, most, x -> x.wordLength(1, 44));
        Checks.says("Promise 10", "Returns how many signs it has.");
        for (int length = 1; length <= 9; length++) {
            Checks.is(length, WordEdges.drawn(0, 0, 2, "a".repeat(length)).wordLength(0, 0));
        }
        String hyphens = "---------";
        Checks.is(73, WordEdges.drawn(0, 1, 1, hyphens, hyphens, hyphens, hyphens, hyphens, hyphens, hyphens, hyphens,
            hyphens).wordLength(0, 0));
        Checks.says("Promise 10", "Throws `IndexOutOfBoundsException` if there is no such letter or word");
        for (int outside : Checks.outside(0, 1)) {
            Checks.refused(Checks.BOUNDS, x -> x.wordLength(outside, 0));
            Checks.refused(Checks.BOUNDS, x -> x.wordLength(0, outside));
            Checks.refused(Checks.BOUNDS, x -> x.wordLength(1, outside));
        }
        Checks.refusedIn(CrossedSheet::new, Checks.BOUNDS, x -> x.wordLength(0, 0));
        Checks.refusedIn(CrossedSheet::new, Checks.BOUNDS, x -> x.wordLength(1, 0));
    }

    private static void sign() {
        Checks.says("Promise 11", "Returns a sign of a word.");
        Checks.is(23, Situations.used().sign(0, 0, 0));
        Checks.is(3, Situations.used().sign(0, 0, 1));
        Checks.says("Promise 11", "`k`: letter");
        Checks.is(1, Situations.used().sign(1, 0, 0));
        Checks.says("Promise 11", "`n`: word");
        Checks.is(2, Situations.used().sign(1, 1, 0));
        Checks.says("Promise 11", "`j`: which of its signs, from 0");
        CrossedSheet x = WordEdges.drawn(0, 0, 1, "abcdefghi", "zyx......");
        for (int j = 0; j < 9; j++) {
            Checks.is(j, x.sign(0, 0, j));
        }
        Checks.is(25, x.sign(0, 1, 0));
        Checks.says("Promise 11", "Returns the sign; NONE if the word has no more signs.");
        for (int j : new int[] {9, 10, 12, 81, 256, 65536, Integer.MAX_VALUE}) {
            Checks.is(Checks.NONE, x.sign(0, 0, j));
        }
        Checks.is(23, x.sign(0, 1, 2));
        Checks.is(Checks.NONE, x.sign(0, 1, 3));
        Checks.is(Checks.NONE, x.sign(0, 1, Integer.MAX_VALUE));
        Checks.is(26, Situations.used().sign(0, 1, 0));
        Checks.is(Checks.NONE, Situations.used().sign(0, 1, 1));
        Checks.says("Promise 11", "Throws `IndexOutOfBoundsException` if there is no such letter or word");
        for (int outside : Checks.outside(0, 1)) {
            Checks.refused(Checks.BOUNDS, y -> y.sign(outside, 0, 0));
            Checks.refused(Checks.BOUNDS, y -> y.sign(0, outside, 0));
            Checks.refused(Checks.BOUNDS, y -> y.sign(1, outside, 0));
        }
        Checks.refusedIn(CrossedSheet::new, Checks.BOUNDS, y -> y.sign(0, 0, 0));
        Checks.says("Promise 11", "Throws `IllegalArgumentException` if j is negative");
        for (int j : new int[] {-1, -2, -9, -256, Integer.MIN_VALUE}) {
            Checks.refused(Checks.ARGUMENT, y -> y.sign(0, 0, j));
            Checks.refused(Checks.ARGUMENT, y -> y.sign(1, 1, j));
        }
    }

    private static void wordAt() {
        Checks.says("Promise 12", "Finds the word in which a letter has a mark in a cell.");
        CrossedSheet x = Situations.used();
        int[][] due = {{Checks.NONE, 1, 0, Checks.NONE, 0, Checks.NONE},
            {Checks.NONE, Checks.NONE, 0, Checks.NONE, Checks.NONE, 1}};
        for (int k = 0; k < 2; k++) {
            for (int cell = 0; cell < 6; cell++) {
                Checks.is(due[k][cell], x.wordAt(k, cell / 2, cell % 2));
            }
        }
        Checks.says("Promise 12", "`k`: letter");
        CrossedSheet both = Checks.loaded("S31g1m00a02m20b02m20c36");
        Checks.is(1, both.wordAt(0, 2, 0));
        Checks.is(0, both.wordAt(1, 2, 0));
        Checks.says("Promise 12", "`x`: column");
        Checks.is(0, Checks.loaded("S92m80a02").wordAt(0, 8, 0));
        Checks.says("Promise 12", "`y`: row");
        Checks.is(0, Checks.loaded("S29m08a02").wordAt(0, 0, 8));
        Checks.says("Promise 12", "Returns the word in which the mark is that belongs to the letter (also a"
            + " hyphen that is left out); NONE if there is no such mark in this cell.");
        CrossedSheet cut = WordEdges.drawn(1, 0, 2, "a...-", "-....", "?....", "b...c", "...X.");
        Checks.is("a b c", Checks.words(cut, 1));
        Checks.is(1, cut.wordAt(1, 4, 0));
        Checks.is(1, cut.wordAt(1, 0, 1));
        Checks.is(Checks.NONE, cut.wordAt(1, 0, 2));
        Checks.is(1, cut.wordAt(1, 0, 3));
        Checks.is(2, cut.wordAt(1, 4, 3));
        Checks.is(Checks.NONE, cut.wordAt(1, 3, 4));
        Checks.is(0, cut.wordAt(0, 3, 4));
        Checks.is(Checks.NONE, cut.wordAt(1, 1, 0));
        Checks.is(Checks.NONE, cut.wordAt(0, 0, 2));
        Checks.says("Promise 12", "Throws `IndexOutOfBoundsException` if there is no such letter or cell");
        for (int k : Checks.outside(0, 1)) {
            Checks.refused(Checks.BOUNDS, y -> y.wordAt(k, 1, 0));
        }
        for (int column : Checks.outside(0, 2)) {
            Checks.refused(Checks.BOUNDS, y -> y.wordAt(0, column, 0));
            Checks.refused(Checks.BOUNDS, y -> y.wordAt(1, column, 1));
        }
        for (int row : Checks.outside(0, 1)) {
            Checks.refused(Checks.BOUNDS, y -> y.wordAt(0, 0, row));
            Checks.refused(Checks.BOUNDS, y -> y.wordAt(1, 2, row));
        }
    }
}
