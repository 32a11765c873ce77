/** The promises 21 to 27: what would be. */
final class SearchEdges {
    static final Runnable[] ALL = {SearchEdges::section, SearchEdges::constants, SearchEdges::find,
        SearchEdges::findBounds, SearchEdges::shared, SearchEdges::count, SearchEdges::bestPen,
        SearchEdges::bestPenEdges, SearchEdges::greatestMargin, SearchEdges::bestDecision,
        SearchEdges::bestDecisionEdges, SearchEdges::wordsWith};
    /** Sheets with all kinds of marks. */
    private static final String[] TEXTS = {"S66", "S11m00a15", "S11m00a02m00b02", Situations.TEXT,
        "S31m00a15m10b15m20c36", "S43m00a02m00b03m10c25m11d14m32e36m32f02v5p0240p1041",
        "S91v0m00a00m10a11m20a22m30a33m40a04m50a15m60a26m70a37m80a08p0140p1160",
        "S29v9m00a38m00b00m01c15m12d07m12e31m08f24m18g24m18h25m03i16m04j22m05k35"};

    private SearchEdges() {
    }

    /** The sheet of the text, or another one that actions have made of it. */
    private static CrossedSheet sheet(String text, boolean changed) {
        CrossedSheet x = Checks.loaded(text);
        if (changed) {
            x.turn();
            x.setMargin(6);
            x.setLetter(1, 2, 5, 0);
            Checks.outcome(x, s -> s.write(0, 0, 3, 0, 1));
        }
        return x;
    }

    private static void section() {
        Checks.says("Terms", "Ahead of the calls `find`, `shared`, `count`, `bestPen`, `greatestMargin`,"
            + " `bestDecision`, `wordsWith` the interface says: ---- what would be; these and all following"
            + " methods up to the save slots change nothing.");
        for (Checks.Call call : new Checks.Call[] {x -> x.find(0, 2, 2303), x -> x.find(1, 8, 0),
            CrossedSheet::shared, x -> x.count(0, 26), x -> x.bestPen(0), x -> x.bestPen(1),
            CrossedSheet::greatestMargin, x -> x.bestDecision(0), x -> x.bestDecision(1),
            x -> x.wordsWith(0, 3), x -> x.wordsWith(1, 2),
            x -> x.runScript(3, 10002_20100_50000L), x -> x.runScript(3, 30381_40009_10102L), x -> x.runScript(1, 0),
            x -> x.simulate(1, 99), x -> x.simulate(-7, 1)}) {
            Checks.changesNothing(call);
        }
        for (Checks.Call call : new Checks.Call[] {x -> x.bestPen(0), CrossedSheet::greatestMargin,
            x -> x.bestDecision(0), x -> x.runScript(3, 50000_40001_20000L), x -> x.simulate(3, 5)}) {
            Checks.changesNothingIn(Situations::fullOfStates, call);
            Checks.changesNothingIn(Situations::bothSaved, call);
            Checks.changesNothingIn(Situations::usedWithoutSheet, call);
        }
    }

    private static void constants() {
        Checks.says("Terms", "The constants: `NONE = -9`: There is no such result.");
        Checks.is(-9, CrossedSheet.NONE);
        Checks.is(-9, Checks.loaded("S11").errorPosition());
        Checks.is(-9, Situations.used().mark(1, 1, 0, 3));
        Checks.is(-9, Situations.used().mark(1, 1, 0, 4));
        Checks.is(-9, Situations.used().sign(0, 0, 2));
        Checks.is(-9, Situations.used().wordAt(0, 0, 0));
        Checks.is(-9, new CrossedSheet().find(0, 1, 0));
        Checks.is(-9, Checks.loaded("S11m00a02m00b02").greatestMargin());
        Checks.is(-9, new CrossedSheet().bestDecision(0));
        Checks.is(-9, new CrossedSheet().runScript(1, 50000));
    }

    private static void find() {
        Checks.says("Promise 21", "Finds a word by its first signs.");
        CrossedSheet x = WordEdges.drawn(0, 0, 1, "ab.abc.-z", "a.z-.....", "b........");
        Checks.is("ab abc -z a zb", Checks.words(x, 0));
        Checks.is(0, x.find(0, 2, 1));
        Checks.is(1, x.find(0, 3, 102));
        Checks.is(2, x.find(0, 2, 2625));
        Checks.is(4, x.find(0, 2, 2501));
        Checks.says("Promise 21", "`k`: letter");
        CrossedSheet second = WordEdges.drawn(1, 0, 1, "a.b", "C..");
        Checks.is(1, second.find(1, 1, 1));
        Checks.is(Checks.NONE, second.find(0, 1, 1));
        Checks.is(0, second.find(0, 1, 2));
        Checks.says("Promise 21", "`n`: number of signs, 1 to 8");
        CrossedSheet nine = WordEdges.drawn(0, 0, 1, "bcdefghij");
        long signs = 0;
        for (int n = 1; n <= 8; n++) {
            signs = 100 * signs + n;
            Checks.is(0, nine.find(0, n, signs));
            Checks.is(Checks.NONE, nine.find(0, n, signs + 1));
            Checks.is(Checks.NONE, nine.find(0, n, signs - 1));
        }
        Checks.says("Promise 21", "`signs`: the signs, two decimal digits each, those of the first one highest: a"
            + " number of at most 2 * n digits (0 or more), each pair 00 to 26");
        CrossedSheet low = WordEdges.drawn(0, 0, 1, "aaaaaaaab", "--------z");
        Checks.is(0, low.find(0, 8, 0));
        Checks.is(0, low.find(0, 1, 0));
        Checks.is(1, low.find(0, 1, 26));
        Checks.is(1, low.find(0, 8, 2626262626262626L));
        Checks.is(Checks.NONE, low.find(0, 8, 2626262626262625L));
        Checks.is(Checks.NONE, low.find(0, 8, 1));
        CrossedSheet ordered = WordEdges.drawn(0, 0, 1, "ab.ba");
        Checks.is(0, ordered.find(0, 2, 1));
        Checks.is(1, ordered.find(0, 2, 100));
        Checks.says("Promise 21", "Returns the smallest number of a word that begins with these signs; NONE if"
            + " there is none.");
        CrossedSheet alike = WordEdges.drawn(0, 0, 1, "b.ab.abc.", "abc.ab...");
        Checks.is("b ab abc abc ab", Checks.words(alike, 0));
        Checks.is(1, alike.find(0, 1, 0));
        Checks.is(1, alike.find(0, 2, 1));
        Checks.is(2, alike.find(0, 3, 102));
        Checks.is(Checks.NONE, alike.find(0, 4, 10200));
        Checks.is(Checks.NONE, alike.find(0, 2, 100));
        Checks.is(Checks.NONE, alike.find(0, 2, 0));
        Checks.is(Checks.NONE, new CrossedSheet().find(0, 1, 0));
        Checks.is(Checks.NONE, new CrossedSheet().find(1, 8, 0));
    }

    private static void findBounds() {
        Checks.says("Promise 21", "Throws `IndexOutOfBoundsException` if there is no such letter");
        for (int k : Checks.outside(0, 1)) {
            Checks.refused(Checks.BOUNDS, x -> x.find(k, 1, 0));
        }
        Checks.says("Promise 21", "Throws `IllegalArgumentException` if n or signs is out of range");
        for (int n : Checks.outside(1, 8)) {
            Checks.refused(Checks.ARGUMENT, x -> x.find(0, n, 0));
        }
        for (long signs : new long[] {-1, -100, Long.MIN_VALUE, Long.MAX_VALUE, 27, 99, 100, 2600, 1L << 32,
            1L << 62}) {
            Checks.refused(Checks.ARGUMENT, x -> x.find(1, 1, signs));
        }
        long power = 1;
        for (int n = 1; n <= 8; n++) {
            int length = n;
            for (long place = power; place >= 1; place /= 100) {
                long pair = place;
                Checks.refused(Checks.ARGUMENT, x -> x.find(0, length, 27 * pair));
                Checks.refused(Checks.ARGUMENT, x -> x.find(0, length, 99 * pair));
                Checks.is(Checks.NONE, new CrossedSheet().find(0, length, 26 * pair));
            }
            power *= 100;
            long over = power;
            Checks.refused(Checks.ARGUMENT, x -> x.find(0, length, over));
            Checks.refused(Checks.ARGUMENT, x -> x.find(0, length, -over));
            Checks.refused(Checks.ARGUMENT, x -> x.find(0, length, -1));
            Checks.refused(Checks.ARGUMENT, x -> x.find(0, length, Long.MAX_VALUE));
            Checks.refused(Checks.ARGUMENT, x -> x.find(0, length, Long.MIN_VALUE));
        }
    }

    /** A sheet with the words of the letter 0, each in a line of its own, and those of the letter 1. */
    private static CrossedSheet withWords(String[] ofFirst, String[] ofSecond) {
        CrossedSheet x = Checks.loaded("S99p0020p1360");
        for (int line = 0; line < ofFirst.length; line++) {
            for (int i = 0; i < ofFirst[line].length(); i++) {
                x.write(i, line, Checks.signOf(ofFirst[line].charAt(i)), 0, 2);
            }
        }
        for (int line = 0; line < ofSecond.length; line++) {
            for (int i = 0; i < ofSecond[line].length(); i++) {
                x.write(i, 8 - line, Checks.signOf(ofSecond[line].charAt(i)), 3, 6);
            }
        }
        return x;
    }

    private static void isShared(int due, String ofFirst, String ofSecond) {
        CrossedSheet x = withWords(ofFirst.split(" "), ofSecond.split(" "));
        Checks.is(due, x.shared());
    }

    private static void shared() {
        Checks.says("Promise 22", "Counts the words that both letters have.");
        isShared(1, "ab cd", "xy cd");
        isShared(2, "ab cd", "cd ab");
        Checks.says("Promise 22", "Returns how many words of the letter 0 have the same signs in the same order"
            + " as some word of the letter 1 (each of them counts, also alike ones).");
        isShared(0, "", "");
        isShared(0, "a", "");
        isShared(0, "", "a");
        isShared(1, "a", "a");
        isShared(3, "a a a", "a");
        isShared(1, "a", "a a a");
        isShared(3, "a b a", "a a b");
        isShared(0, "ab", "ba");
        isShared(0, "ab", "abc");
        isShared(0, "abc", "ab");
        isShared(0, "abc", "abd");
        isShared(0, "abc", "xbc");
        isShared(1, "abcdefghi", "abcdefghi");
        isShared(1, "a-b", "a-b");
        isShared(1, "z ab-", "ab-");
        isShared(4, "a b c d e f g h", "d c b a");
        CrossedSheet gaps = Checks.loaded("S32p1360m00a02m20b02m01a36m21b36");
        Checks.is(1, gaps.shared());
        gaps.setGap(1);
        Checks.is(2, gaps.shared());
    }

    private static void count() {
        Checks.says("Promise 23", "Counts a sign.");
        CrossedSheet x = WordEdges.drawn(0, 0, 2, "aba-.", "a--..", "z-X..");
        Checks.is("abaa-z-", Checks.words(x, 0));
        Checks.says("Promise 23", "`k`: letter");
        Checks.is(1, x.count(1, 23));
        Checks.is(0, x.count(0, 23));
        Checks.says("Promise 23", "`sign`: 0 to 26");
        for (int sign = 0; sign <= 26; sign++) {
            int due = sign == 0 ? 3 : sign == 1 || sign == 25 ? 1 : sign == 26 ? 2 : 0;
            Checks.is(due, x.count(0, sign));
            Checks.is(0, new CrossedSheet().count(0, sign));
        }
        Checks.says("Promise 23", "Returns how often it is in the words of the letter (hyphens that are left out"
            + " do not count).");
        String line = "---------";
        Checks.is(73, WordEdges.drawn(1, 0, 1, line, line, line, line, line, line, line, line, line).count(1, 26));
        String letters = "aaaaaaaaa";
        CrossedSheet full = WordEdges.drawn(1, 1, 1, letters, letters, letters, letters, letters, letters, letters,
            letters, letters);
        Checks.is(81, full.count(1, 0));
        Checks.is(0, full.count(0, 0));
        Checks.is(0, WordEdges.drawn(0, 0, 2, "-", "a").count(0, 26));
        Checks.is(1, WordEdges.drawn(0, 0, 2, "a", "-").count(0, 26));
        Checks.is(0, WordEdges.drawn(0, 0, 2, "?").count(0, 26));
        Checks.says("Promise 23", "Throws `IndexOutOfBoundsException` if there is no such letter");
        for (int k : Checks.outside(0, 1)) {
            Checks.refused(Checks.BOUNDS, y -> y.count(k, 0));
        }
        Checks.says("Promise 23", "Throws `IllegalArgumentException` if sign is out of range");
        for (int sign : Checks.outside(0, 26)) {
            Checks.refused(Checks.ARGUMENT, y -> y.count(0, sign));
            Checks.refused(Checks.ARGUMENT, y -> y.count(1, sign));
        }
    }

    /** The pen that is found by setting each of them. */
    private static int penBySetting(CrossedSheet x, int k) {
        int best = Checks.NONE;
        int fewest = 1000;
        for (int number = 0; number <= 38; number++) {
            if (number % 10 <= 8) {
                int doubtful = x.setLetter(k, number / 10, number % 10, 0);
                best = doubtful < fewest ? number : best;
                fewest = Math.min(fewest, doubtful);
            }
        }
        return best;
    }

    private static void bestPen() {
        Checks.says("Promise 24", "Finds the pen for a letter with the fewest doubts.");
        for (int number = 0; number < 4 * TEXTS.length; number++) {
            String text = TEXTS[number / 4];
            boolean changed = number % 4 >= 2;
            int k = number % 2;
            Checks.is(penBySetting(sheet(text, changed), k), sheet(text, changed).bestPen(k));
        }
        CrossedSheet written = new CrossedSheet();
        written.setLetter(0, 0, 0, 0);
        written.setMargin(9);
        written.write(0, 0, 0, 0, 0);
        Checks.is(17, written.bestPen(1));
        Checks.says("Promise 24", "`k`: letter");
        Checks.is(0, Checks.loaded("S11v9m00a00p0000p1380").bestPen(0));
        Checks.is(17, Checks.loaded("S11v9m00a00p0000p1380").bestPen(1));
        Checks.says("Promise 24", "Returns 10 * ink + slant of the ink and slant of this letter, in place of"
            + " those that it has, with which the fewest marks are doubtful, among several the smallest such"
            + " number.");
        Checks.is(0, new CrossedSheet().bestPen(0));
        Checks.is(0, new CrossedSheet().bestPen(1));
    }

    /** A mark of the pen 00, and the letter 0 so far from it that only some pens of the letter 1 are told. */
    private static void bestPenEdges() {
        Checks.says("Promise 24", "with which the fewest marks are doubtful, among several the smallest such"
            + " number.");
        String mark = "S11v9m00a00";
        // The mark is at the letter 0, so the letter 1 has to be ten or more away: 17 is the first.
        Checks.is(17, Checks.loaded(mark + "p0000").bestPen(1));
        Checks.is(17, Checks.loaded(mark + "p1000").bestPen(0));
        Checks.is(38, Checks.loaded(mark + "p0070").bestPen(1));
        Checks.is(37, Checks.loaded(mark + "p0060").bestPen(1));
        Checks.is(28, Checks.loaded(mark + "p0040").bestPen(1));
        Checks.is(18, Checks.loaded(mark + "p0010").bestPen(1));
        Checks.is(0, Checks.loaded(mark + "p0080").bestPen(1));
        Checks.is(0, Checks.loaded(mark + "p0380").bestPen(1));
        Checks.is(0, Checks.loaded("S11m00a00m00b00").bestPen(1));
        CrossedSheet full = Checks.loaded("S99");
        for (int place = 0; place < 162; place++) {
            full.write(place / 2 % 9, place / 18, 0, 2, 2);
        }
        Checks.is(162, full.about(3));
        Checks.is(0, full.bestPen(0));
        Checks.is(0, full.bestPen(1));
        Checks.says("Promise 24", "Throws `IndexOutOfBoundsException` if there is no such letter");
        for (int k : Checks.outside(0, 1)) {
            Checks.refused(Checks.BOUNDS, x -> x.bestPen(k));
        }
    }

    private static int marginBySetting(CrossedSheet x) {
        for (int margin = 9; margin >= 0; margin--) {
            x.setMargin(margin);
            if (x.about(3) == 0) {
                return margin;
            }
        }
        return Checks.NONE;
    }

    private static void greatestMargin() {
        Checks.says("Promise 25", "Finds the greatest margin without doubts.");
        for (String text : TEXTS) {
            Checks.is(marginBySetting(sheet(text, false)), sheet(text, false).greatestMargin());
            Checks.is(marginBySetting(sheet(text, true)), sheet(text, true).greatestMargin());
        }
        Checks.says("Promise 25", "Returns the greatest margin, 0 to 9, with which no mark is doubtful; NONE if"
            + " there is none.");
        int[] pens = {0, 1, 2, 3, 4, 5, 6, 7, 8, 15, 16, 17, 24, 25, 26, 33, 34, 35};
        for (int by = 0; by < pens.length; by++) {
            int due = by == 0 ? Checks.NONE : by > 10 ? 9 : by - 1;
            for (int margin = 0; margin <= 9; margin += 3) {
                String text = "S21v" + margin + "m00a00m10b" + pens[by] / 9 + pens[by] % 9;
                Checks.is(due, Checks.loaded(text + SheetEdges.pens(0, pens[by])).greatestMargin());
                Checks.is(due, Checks.loaded(text + SheetEdges.pens(pens[by], 0)).greatestMargin());
            }
        }
        Checks.is(9, new CrossedSheet().greatestMargin());
        Checks.is(9, Checks.loaded("S11v0").greatestMargin());
        CrossedSheet decided = Checks.loaded("S11m00a00p1000p0000");
        Checks.is(Checks.NONE, decided.greatestMargin());
        decided.decide(0, 0, 0, 1);
        Checks.is(9, decided.greatestMargin());
        // The mark with the smallest difference tells.
        Checks.is(4, Checks.loaded("S31p0000p1380m00a00m10b38m20c25").greatestMargin());
    }

    /** The decision that is found by trying each of them. */
    private static int decisionByTrying(CrossedSheet x, int k) {
        int best = Checks.NONE;
        int fewest = 1000;
        int width = x.about(0);
        int height = x.about(1);
        for (int place = 0; place < width * height * 2; place++) {
            int cx = place / 2 / height;
            int cy = place / 2 % height;
            int i = place % 2;
            if (i >= x.marks(cx, cy) || x.mark(cx, cy, i, 3) != Checks.NONE) {
                continue;
            }
            String answer = Checks.outcome(x, s -> s.decide(cx, cy, i, k));
            if (!answer.startsWith("java")) {
                int doubtful = Integer.parseInt(answer);
                best = doubtful < fewest ? 100 * cx + 10 * cy + i : best;
                fewest = Math.min(fewest, doubtful);
                x.undo();
            }
        }
        return best;
    }

    private static void bestDecision() {
        Checks.says("Promise 26", "Finds the decision that clears most.");
        for (int number = 0; number < 4 * TEXTS.length; number++) {
            String text = TEXTS[number / 4];
            boolean changed = number % 4 >= 2;
            int k = number % 2;
            Checks.is(decisionByTrying(sheet(text, changed), k), sheet(text, changed).bestDecision(k));
        }
        for (int[] cell : new int[][] {{0, 0}, {8, 0}, {0, 8}, {8, 8}}) {
            CrossedSheet written = Checks.loaded("S99");
            written.write(4, 4, 0, 0, 2);
            written.write(cell[0], cell[1], 0, 1, 5);
            Checks.is(100 * cell[0] + 10 * cell[1], written.bestDecision(0));
        }
        for (String text : new String[] {"S91m80a15m00b02", "S19m00a15m08b02"}) {
            CrossedSheet turned = Checks.loaded(text);
            turned.turn();
            Checks.is(decisionByTrying(turned, 1), turned.bestDecision(1));
        }
        CrossedSheet used = Situations.used();
        Checks.is(110, used.bestDecision(0));
        Checks.is(110, used.bestDecision(1));
        Checks.says("Promise 26", "`k`: letter");
        CrossedSheet x = Checks.loaded("S21m00a15m10b15m10c15");
        x.decide(1, 0, 0, 1);
        x.decide(0, 0, 0, 1);
        Checks.is(101, x.bestDecision(0));
        Checks.is(Checks.NONE, x.bestDecision(1));
    }

    private static void bestDecisionEdges() {
        Checks.says("Promise 26", "Returns 100 * x + 10 * y + i of the mark that is not decided, such that if it"
            + " is decided for the letter k, the fewest marks are doubtful, among several the smallest such"
            + " number; NONE if there is no mark that is not decided and can be decided for the letter k.");
        for (int k = 0; k < 2; k++) {
            Checks.is(Checks.NONE, new CrossedSheet().bestDecision(k));
            Checks.is(0, Checks.loaded("S11m00a02").bestDecision(k));
            Checks.is(880, Checks.loaded("S99m88a36").bestDecision(k));
            Checks.is(80, Checks.loaded("S99m80a02m08b02").bestDecision(k));
            Checks.is(800, Checks.loaded("S99m80a15m08b02").bestDecision(k));
            Checks.is(180, Checks.loaded("S99m80a15m80c15m18b15m18d15").bestDecision(k));
            Checks.is(10, Checks.loaded("S22m00a15m01b15m01c15m10d15m10e15").bestDecision(k));
            CrossedSheet all = Checks.loaded("S21m00a15m10b15");
            all.decide(0, 0, 0, k);
            Checks.is(100, all.bestDecision(k));
            all.decide(1, 0, 0, 1 - k);
            Checks.is(Checks.NONE, all.bestDecision(k));
            CrossedSheet last = Checks.loaded("S99m88a15m88b15");
            last.decide(8, 8, 0, 1 - k);
            Checks.is(881, last.bestDecision(k));
            Checks.is(Checks.NONE, last.bestDecision(1 - k));
            CrossedSheet second = Checks.loaded("S99m88a15m88b15");
            second.decide(8, 8, 1, 1 - k);
            Checks.is(880, second.bestDecision(k));
            Checks.is(Checks.NONE, second.bestDecision(1 - k));
        }
        // A mark that is told but not decided is taken only if no doubtful one can be.
        CrossedSheet told = Checks.loaded("S31m00a02m10b15m20c15m20d15");
        Checks.is(200, told.bestDecision(1));
        told.decide(2, 0, 0, 0);
        Checks.is(100, told.bestDecision(1));
        told.decide(1, 0, 0, 0);
        Checks.is(0, told.bestDecision(1));
        told.decide(0, 0, 0, 0);
        Checks.is(201, told.bestDecision(1));
        Checks.says("Promise 26", "Throws `IndexOutOfBoundsException` if there is no such letter");
        for (int k : Checks.outside(0, 1)) {
            Checks.refused(Checks.BOUNDS, x -> x.bestDecision(k));
        }
    }

    private static void wordsWith() {
        Checks.says("Promise 27", "Tells how the words of a letter would be with another gap.");
        CrossedSheet x = WordEdges.drawn(0, 0, 1, "a.b..c..-", "d...e....");
        Checks.is(5, x.wordsWith(0, 1));
        Checks.says("Promise 27", "`k`: letter");
        CrossedSheet both = WordEdges.drawn(1, 0, 1, "a.bX");
        Checks.is(2, both.wordsWith(1, 1));
        Checks.is(1, both.wordsWith(0, 1));
        Checks.is(1, both.wordsWith(1, 2));
        Checks.says("Promise 27", "`gap`: 1 to 3");
        Checks.is(5, x.wordsWith(0, 1));
        Checks.is(4, x.wordsWith(0, 2));
        Checks.is(2, x.wordsWith(0, 3));
        Checks.says("Promise 27", "Returns the number of its words then.");
        for (int gap = 1; gap <= 3; gap++) {
            for (int now = 1; now <= 3; now++) {
                CrossedSheet y = WordEdges.drawn(0, 0, now, "a.b..c..-", "d...e....");
                int words = y.wordsWith(0, gap);
                y.setGap(gap);
                Checks.is(y.letter(0, 3), words);
                Checks.is(gap == 1 ? 5 : gap == 2 ? 4 : 2, words);
            }
            Checks.is(0, new CrossedSheet().wordsWith(1, gap));
        }
        Checks.says("Promise 27", "Throws `IndexOutOfBoundsException` if there is no such letter");
        for (int k : Checks.outside(0, 1)) {
            Checks.refused(Checks.BOUNDS, y -> y.wordsWith(k, 1));
        }
        Checks.says("Promise 27", "Throws `IllegalArgumentException` if gap is out of range");
        for (int gap : Checks.outside(1, 3)) {
            Checks.refused(Checks.ARGUMENT, y -> y.wordsWith(0, gap));
            Checks.refused(Checks.ARGUMENT, y -> y.wordsWith(1, gap));
        }
    }
}
