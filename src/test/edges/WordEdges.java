import java.util.Arrays;

/** What "Terms" says of words. */
final class WordEdges {
    static final Runnable[] ALL = {WordEdges::lines, WordEdges::onlyItsMarks, WordEdges::gaps, WordEdges::cut,
        WordEdges::notCut, WordEdges::again, WordEdges::numbers, WordEdges::hyphensAlone, WordEdges::allMethods};

    private WordEdges() {
    }

    /**
     * A sheet with the marks of the letter k as a picture shows them: a small letter or - is a mark of this
     * letter, a capital one or _ of the other letter, ? a doubtful hyphen, and * both a doubtful "a" and "b".
     * With the way 1 the rows of the picture are columns of the sheet.
     */
    static CrossedSheet drawn(int k, int way, int gap, String... lines) {
        int length = lines[0].length();
        String size = way == 0 ? "" + length + lines.length : "" + lines.length + length;
        CrossedSheet x = Checks.loaded("S" + size + "g" + gap + "p002" + (k == 0 ? way : 1 - way) + "p136"
            + (k == 1 ? way : 1 - way));
        for (int line = 0; line < lines.length; line++) {
            for (int position = 0; position < length; position++) {
                draw(x, k, way == 0 ? position : line, way == 0 ? line : position, lines[line].charAt(position));
            }
        }
        return x;
    }

    private static void draw(CrossedSheet x, int k, int column, int row, char shown) {
        if (shown == '?') {
            x.write(column, row, 26, 1, 5);
        } else if (shown == '*') {
            x.write(column, row, 0, 1, 5);
            x.write(column, row, 1, 1, 5);
        } else if (shown != '.') {
            boolean other = shown == '_' || Character.isUpperCase(shown);
            boolean first = other ? k == 1 : k == 0;
            int sign = shown == '_' ? 26 : Checks.signOf(Character.toLowerCase(shown));
            x.write(column, row, sign, first ? 0 : 3, first ? 2 : 6);
        }
    }

    /** The words of the picture, read for each of the letters with each way. */
    private static void isRead(int gap, String due, String... lines) {
        for (int k = 0; k < 2; k++) {
            for (int way = 0; way < 2; way++) {
                Checks.is(due, Checks.words(drawn(k, way, gap, lines), k));
            }
        }
    }

    private static void lines() {
        Checks.says("Terms", "A letter is read line by line: with the way 0, the lines are the rows, ascending,"
            + " each with the columns ascending; with the way 1, the lines are the columns, ascending, each with"
            + " the rows ascending.");
        isRead(1, "abc def", "abc", "def");
        isRead(1, "ab cd ef", "ab", "cd", "ef");
        isRead(1, "abcdefghi", "abcdefghi");
        isRead(1, "a b c d e f g h i", "a", "b", "c", "d", "e", "f", "g", "h", "i");
        isRead(1, "a", "a");
        isRead(1, "", ".");
        isRead(3, "ab cd", "ab", "cd");
        isRead(3, "a b", "........a", "b........");
        CrossedSheet first = drawn(0, 0, 1, "abc", "def");
        first.setLetter(0, 0, 2, 1);
        Checks.is("ad be cf", Checks.words(first, 0));
    }

    private static void onlyItsMarks() {
        Checks.says("Terms", "Only the marks that belong to the letter are read.");
        isRead(3, "ab", "aXb");
        isRead(3, "ab", "a?b");
        isRead(3, "ab", "a*b");
        isRead(3, "", "XY?");
        isRead(3, "a", "XYa");
        for (int way = 0; way < 2; way++) {
            CrossedSheet both = drawn(0, way, 1, "ab");
            both.write(0, 0, 25, 3, 6);
            Checks.is("ab", Checks.words(both, 0));
            Checks.is("z", Checks.words(both, 1));
        }
    }

    private static void gaps() {
        Checks.says("Terms", "In a line, two marks that follow each other belong to the same word if fewer than G"
            + " cells without a mark of this letter lie between them; G is the gap, 1 to 3, at first 2.");
        for (int gap = 1; gap <= 3; gap++) {
            for (int between = 0; between <= 7; between++) {
                for (String cell : new String[] {".", "X", "?", "*"}) {
                    isRead(gap, between < gap ? "ab" : "a b", "a" + cell.repeat(between) + "b");
                    isRead(gap, between < gap ? "ab" : "a b",
                        cell.repeat(7 - between) + "a" + cell.repeat(between) + "b");
                }
            }
            isRead(gap, gap == 1 ? "a b c" : "abc", "a.b.c");
        }
        isRead(3, "abc", "a..b..c");
        isRead(3, "ab c", "a..b...c");
        isRead(2, "ab c d e", "abX.c..d.", "e........");
        Checks.is(2, new CrossedSheet().about(6));
        Checks.is("ab c", Checks.words(Checks.loaded("S71m00a02m20b02m50c02"), 0));
        Checks.is("ab c", Checks.words(Checks.loaded("S17p0021p1360m00a02m02b02m05c02"), 0));
        CrossedSheet x = new CrossedSheet();
        Checks.fails(Checks.ARGUMENT, x, s -> s.setGap(0));
        Checks.fails(Checks.ARGUMENT, x, s -> s.setGap(4));
    }

    private static void cut() {
        Checks.says("Terms", "A word that is the last one of its line, has the hyphen as its last sign, and is"
            + " not the last word of the letter is cut: it goes on with the next word (the first one of a later"
            + " line), this one hyphen being left out");
        isRead(2, "abc", "ab-", "c..");
        isRead(2, "abcd", "ab-....", "...cd..");
        isRead(2, "ac", "a-....", ".....c");
        isRead(2, "ab", "a-", "..", "b.");
        isRead(2, "ab", "a-", "..", "..", "..", "..", "..", "..", "..", ".b");
        isRead(2, "ab", "a-", "XY", "?.", "b.");
        isRead(2, "ab c", "a-....", "b...c.");
        isRead(2, "a bc d", "a...b-.", "c......", "d......");
        isRead(2, "a-b", "a--", "b..");
        isRead(2, "a---b", "a----", "b....");
        isRead(2, "abc", "a-X", "bc.");
        isRead(2, "abc", "a-?", "bc.");
        isRead(1, "ab", "a-...", "....b");
    }

    /** Each of the three conditions alone fails. */
    private static void notCut() {
        Checks.says("Terms", "A word that is the last one of its line, has the hyphen as its last sign, and is"
            + " not the last word of the letter is cut");
        isRead(2, "a- b c", "a-..b", "c....");
        isRead(2, "- b c", "-..b", "c...");
        isRead(2, "az b", "az.", "b..");
        isRead(2, "a-b c", "a-b", "c..");
        isRead(2, "-b c", "-b", "c.");
        isRead(2, "ab-", "ab-");
        isRead(2, "ab-", "ab-", "...", "...");
        isRead(2, "a b-", "a..", "b-.", "XYZ");
        isRead(2, "ab-", "ab-", "X?*");
        isRead(2, "a b-", "a...b-");
        isRead(2, "-", "-");
        isRead(2, "a b", "a_", "b.");
        isRead(2, "a b", "a?", "b.");
        isRead(2, "a b", "a.", "b_");
    }

    private static void again() {
        Checks.says("Terms", "(again, if the part that was joined last is the last one of its own line, has the"
            + " hyphen as its last sign, and is not the last word of the letter, too).");
        isRead(2, "abc", "a-", "b-", "c.");
        isRead(2, "abcdefghi", "a-", "b-", "c-", "d-", "e-", "f-", "g-", "h-", "i.");
        isRead(2, "ab- c d", "a-....", "b-...c", "d.....");
        isRead(2, "ab c", "a-", "b.", "c.");
        isRead(2, "ab-", "a-", "b-");
        isRead(2, "ab-", "a-", "b-", "..");
        isRead(2, "a-b", "a-", "--", "b.");
        isRead(2, "ab cd e", "a-......", "b...c-..", "d.......", "e.......");
        isRead(2, "abc", "a-", "..", "b-", "..", "c.");
    }

    private static void numbers() {
        Checks.says("Terms", "Words are numbered from 0 as they are read; a cut word and those with which it goes"
            + " on are one word.");
        for (int k = 0; k < 2; k++) {
            CrossedSheet x = drawn(k, 0, 2, "a...b-.", "c-.....", "d...e..", "f......");
            Checks.is("a bcd e f", Checks.words(x, k));
            int[][] due = {{0, 0, 0}, {4, 0, 1}, {5, 0, 1}, {0, 1, 1}, {1, 1, 1}, {0, 2, 1}, {4, 2, 2}, {0, 3, 3}};
            for (int[] mark : due) {
                Checks.is(mark[2], x.wordAt(k, mark[0], mark[1]));
            }
            Checks.is(4, x.letter(k, 3));
            int letter = k;
            Checks.fails(Checks.BOUNDS, x, s -> s.wordLength(letter, 4));
            Checks.fails(Checks.BOUNDS, x, s -> s.wordLength(letter, -1));
        }
    }

    private static void hyphensAlone() {
        Checks.says("Terms", "A word has at least one sign, but one that consisted of a hyphen alone and goes on"
            + " has only the signs of the next one.");
        isRead(2, "b", "-", "b");
        isRead(2, "b", "-", "-", "b");
        isRead(2, "-", "-", "-");
        isRead(2, "-", "-", "-", "-", "-", "-", "-", "-", "-", "-");
        isRead(2, "a bc", "a...-", "bc...");
        isRead(2, "-b", "--", "b.");
        isRead(2, "- b", "-...-", "b....");
        String[] full = new String[9];
        Arrays.fill(full, "---------");
        isRead(1, "-".repeat(73), full);
        Arrays.fill(full, "-...-...-");
        CrossedSheet x = drawn(0, 0, 2, full);
        Checks.is(19, x.letter(0, 3));
        for (int n = 0; n < 19; n++) {
            Checks.is(1, x.wordLength(0, n));
        }
    }

    private static void allMethods() {
        Checks.says("Terms", "All methods go by these words, without the hyphens that are left out, unless they"
            + " say otherwise.");
        CrossedSheet x = drawn(0, 0, 2, "ab-..", "c-...", "-d-..", ".....", "z....");
        x.write(4, 4, 25, 3, 6);
        Checks.is("abc-dz", Checks.words(x, 0));
        Checks.is(1, x.letter(0, 3));
        Checks.is(6, x.letter(0, 4));
        Checks.is(6, x.wordLength(0, 0));
        Checks.is(2, x.sign(0, 0, 2));
        Checks.is(26, x.sign(0, 0, 3));
        Checks.is(0, x.wordAt(0, 2, 0));
        Checks.is(0, x.find(0, 6, 1_02_26_03_25L));
        Checks.is(Checks.NONE, x.find(0, 3, 1_26));
        Checks.is(1, x.count(0, 26));
        Checks.is(1, x.wordsWith(0, 1));
        Checks.is(9, x.about(8));
        Checks.is(Checks.NONE, x.runScript(3, 60001_80006_80006L));
        Checks.is(0, x.runScript(1, 60002));
        Checks.is(0, x.runScript(1, 80009));
        Checks.is(2, x.letter(0, 3) + x.letter(1, 3));
        CrossedSheet alike = drawn(0, 0, 2, "z-.", "z..");
        alike.write(2, 1, 25, 3, 6);
        Checks.is(0, alike.shared());
        alike.write(2, 0, 25, 3, 6);
        Checks.is(1, alike.shared());
        // Turned, the lines of the letter 0 come in the other order, and no word of it is cut.
        Checks.is(2 + 1, alike.turn());
    }
}
