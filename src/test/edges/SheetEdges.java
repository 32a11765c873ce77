/** "What it is", and what "Terms" says of the sheet and of the letters. */
final class SheetEdges {
    static final Runnable[] ALL = {SheetEdges::whatItIs, SheetEdges::object, SheetEdges::introduction,
        SheetEdges::size, SheetEdges::cells, SheetEdges::marksOfCell, SheetEdges::markNumbers, SheetEdges::letters,
        SheetEdges::pens, SheetEdges::firstPens, SheetEdges::distance, SheetEdges::margin, SheetEdges::firstRule,
        SheetEdges::ruleOne, SheetEdges::ruleTwo, SheetEdges::ruleThree, SheetEdges::ruleFour,
        SheetEdges::ruleFive};

    private SheetEdges() {
    }

    private static void whatItIs() {
        Checks.says("What it is", "A sheet that was written on twice: the marks of two letters cross each other,"
            + " one written along the rows and one along the columns, or both ways as told.");
        for (int ways = 0; ways < 4; ways++) {
            CrossedSheet x = Checks.loaded("S22m00a02m10b02m01c02m11d02m00p36m10q36m01r36m11s36g1p002" + ways / 2
                + "p136" + ways % 2);
            Checks.is(ways / 2 == 0 ? "ab cd" : "ac bd", Checks.words(x, 0));
            Checks.is(ways % 2 == 0 ? "pq rs" : "pr qs", Checks.words(x, 1));
        }
    }

    private static void object() {
        Checks.says("What it is", "An object is used for at most 512 calls after it has been made; what later"
            + " calls answer is free.");
        CrossedSheet actions = new CrossedSheet();
        for (int i = 0; i < 497; i++) {
            actions.setMargin(i % 10);
        }
        for (int left = 13; left >= 0; left--) {
            Checks.is(left, actions.undo());
        }
        Checks.is(2, actions.about(5));
        CrossedSheet undone = new CrossedSheet();
        for (int i = 0; i < 256; i++) {
            Checks.is(2, undone.setMargin(9));
            Checks.is(0, undone.undo());
        }
        CrossedSheet texts = new CrossedSheet();
        for (int i = 0; i < 128; i++) {
            texts.append('S');
            texts.append('1');
            texts.append('1');
            Checks.is(3, texts.clearText());
        }
        CrossedSheet slots = new CrossedSheet();
        for (int i = 0; i < 256; i++) {
            Checks.is(0, slots.save(i % 2));
            Checks.is(0, slots.restore(i % 2));
        }
        CrossedSheet dear = Checks.loaded("S99");
        long last = dear.simulate(-1, 99);
        for (int i = 0; i < 507; i++) {
            Checks.is(last, dear.simulate(-1, 99));
        }
    }

    private static void introduction() {
        Checks.says("Terms", "Each mark is read in one letter, by its ink and its slant, by a decision, or by the"
            + " other mark of its cell; otherwise it is doubtful.");
        CrossedSheet x = Checks.loaded("S41m00a02m10b36m10c15m20d15m30e15m30f15");
        x.decide(3, 0, 1, 1);
        int[] letters = {0, 0, 1, 0, Checks.NONE, Checks.NONE, 0, 1};
        int[] rules = {3, 0, 4, 4, 5, 0, 2, 1};
        for (int place = 0; place < 8; place++) {
            if (rules[place] != 0) {
                Checks.is(letters[place], x.mark(place / 2, 0, place % 2, 4));
                Checks.is(rules[place], x.mark(place / 2, 0, place % 2, 5));
            }
        }
        Checks.is(x.about(2), x.about(3) + x.about(8) + x.about(9));
        Checks.says("Terms", "It reads the words of both letters, also those that are cut at the end of a line,"
            + " finds words, tells why a mark belongs where it does, and finds pens and margins with the fewest"
            + " doubts.");
        CrossedSheet all = Checks.loaded("S32m00a02m10-02m01b02m21y36");
        Checks.is("ab", Checks.words(all, 0));
        Checks.is("y", Checks.words(all, 1));
        Checks.is(0, all.find(0, 2, 1));
        Checks.is(3, all.mark(2, 1, 0, 5));
        Checks.is(5, all.bestPen(1));
        Checks.is(9, all.greatestMargin());
        Checks.says("Terms", "Changes can be undone.");
        all.erase(0, 0, 0);
        Checks.is(0, all.undo());
        Checks.is("ab", Checks.words(all, 0));
    }

    private static void size() {
        Checks.says("Terms", "The sheet has W columns and H rows, 1 to 9 each, at first 6 and 6;");
        CrossedSheet fresh = new CrossedSheet();
        Checks.is(6, fresh.about(0));
        Checks.is(6, fresh.about(1));
        for (int w = 1; w <= 9; w++) {
            for (int h = 1; h <= 9; h++) {
                CrossedSheet x = Checks.loaded("S" + w + h);
                Checks.is(w, x.about(0));
                Checks.is(h, x.about(1));
            }
        }
        for (String text : new String[] {"S01", "S10", "S00", "S09", "S90"}) {
            Checks.fails(Checks.STATE, Checks.typed(text), CrossedSheet::load);
        }
    }

    private static void cells() {
        Checks.says("Terms", "a cell has a column x from 0 and a row y from 0.");
        for (int w = 1; w <= 9; w++) {
            for (int h = 1; h <= 9; h++) {
                CrossedSheet x = Checks.loaded("S" + w + h);
                for (int column = -1; column <= 10; column++) {
                    for (int row = -1; row <= 10; row++) {
                        boolean there = column >= 0 && column < w && row >= 0 && row < h;
                        int cx = column;
                        int cy = row;
                        Checks.is(there ? "0" : Checks.BOUNDS.getName(), Checks.outcome(x, s -> s.marks(cx, cy)));
                    }
                }
            }
        }
    }

    private static void marksOfCell() {
        Checks.says("Terms", "A cell has at most two marks, the first one with the number 0, the second one with"
            + " the number 1.");
        CrossedSheet x = Checks.loaded("S11");
        Checks.fails(Checks.BOUNDS, x, s -> s.mark(0, 0, 0, 0));
        Checks.is(0, x.write(0, 0, 7, 0, 2));
        Checks.is(7, x.mark(0, 0, 0, 0));
        Checks.fails(Checks.BOUNDS, x, s -> s.mark(0, 0, 1, 0));
        Checks.is(1, x.write(0, 0, 8, 0, 2));
        Checks.is(7, x.mark(0, 0, 0, 0));
        Checks.is(8, x.mark(0, 0, 1, 0));
        Checks.fails(Checks.BOUNDS, x, s -> s.mark(0, 0, 2, 0));
        Checks.fails(Checks.BOUNDS, x, s -> s.mark(0, 0, -1, 0));
        Checks.fails(Checks.STATE, x, s -> s.write(0, 0, 9, 0, 2));
        Checks.is(2, x.marks(0, 0));
        CrossedSheet full = Checks.loaded("S99");
        for (int mark = 0; mark < 162; mark++) {
            Checks.is(mark / 81, full.write(mark % 9, mark % 81 / 9, 0, 0, 0));
        }
        for (int cell = 0; cell < 81; cell++) {
            int cx = cell % 9;
            int cy = cell / 9;
            Checks.fails(Checks.STATE, full, s -> s.write(cx, cy, 0, 0, 0));
        }
        Checks.is(162, full.about(2));
        Checks.is(81, full.about(7));
    }

    private static void markNumbers() {
        Checks.says("Terms", "A mark has a sign from 0 to 26 (26 is a hyphen), an ink from 0 to 3 and a slant"
            + " from 0 to 8, and is decided for the letter 0, for the letter 1, or not (at first not).");
        CrossedSheet x = Checks.loaded("S93");
        for (int sign = 0; sign <= 26; sign++) {
            int cx = sign % 9;
            int cy = sign / 9;
            Checks.is(0, x.write(cx, cy, sign, sign % 4, sign % 9));
            Checks.is(sign, x.mark(cx, cy, 0, 0));
            Checks.is(sign % 4, x.mark(cx, cy, 0, 1));
            Checks.is(sign % 9, x.mark(cx, cy, 0, 2));
            Checks.is(Checks.NONE, x.mark(cx, cy, 0, 3));
        }
        for (int k = 0; k < 2; k++) {
            x.decide(8, 2, 0, k);
            Checks.is(k, x.mark(8, 2, 0, 3));
        }
        x.decide(8, 2, 0, 2);
        Checks.is(Checks.NONE, x.mark(8, 2, 0, 3));
        Checks.is(Checks.NONE, Checks.loaded("S11m00a00").mark(0, 0, 0, 3));
        CrossedSheet cut = Checks.loaded("S12m01b02");
        cut.write(0, 0, 25, 0, 2);
        Checks.is("z b", Checks.words(cut, 0));
        cut.erase(0, 0, 0);
        cut.write(0, 0, 26, 0, 2);
        Checks.is("b", Checks.words(cut, 0));
    }

    private static void letters() {
        Checks.says("Terms", "There are the letters 0 and 1.");
        CrossedSheet x = Situations.used();
        for (int k = 0; k < 2; k++) {
            Checks.is(k == 0 ? 20 : 371, Checks.pen(x, k));
            Checks.is(1, x.wordLength(k, 1));
            Checks.is(k == 0 ? 26 : 2, x.sign(k, 1, 0));
            Checks.is(Checks.NONE, x.wordAt(k, 0, 0));
            Checks.is(1, x.find(k, 1, k == 0 ? 26 : 2));
            Checks.is(1, x.count(k, k == 0 ? 26 : 2));
            Checks.isTrue(x.bestPen(k) >= 0);
            Checks.isTrue(x.bestDecision(k) >= 0);
            Checks.is(2, x.wordsWith(k, 1));
            Checks.is(1, x.setLetter(k, k == 0 ? 0 : 3, k == 0 ? 2 : 7, 0));
        }
        for (int k : Checks.outside(0, 1)) {
            for (Checks.Call call : new Checks.Call[] {s -> s.letter(k, 0), s -> s.wordLength(k, 0),
                s -> s.sign(k, 0, 0), s -> s.wordAt(k, 0, 0), s -> s.find(k, 1, 0), s -> s.count(k, 0),
                s -> s.bestPen(k), s -> s.bestDecision(k), s -> s.wordsWith(k, 1), s -> s.setLetter(k, 0, 0, 0)}) {
                Checks.fails(Checks.BOUNDS, x, call);
            }
        }
    }

    private static void pens() {
        Checks.says("Terms", "A letter has an ink from 0 to 3, a slant from 0 to 8, and a way: 0 along the rows,"
            + " 1 along the columns.");
        for (int k = 0; k < 2; k++) {
            CrossedSheet x = new CrossedSheet();
            for (int pen = 0; pen < 72; pen++) {
                x.setLetter(k, pen / 18, pen / 2 % 9, pen % 2);
                Checks.is(pen / 18, x.letter(k, 0));
                Checks.is(pen / 2 % 9, x.letter(k, 1));
                Checks.is(pen % 2, x.letter(k, 2));
            }
            Checks.is(k == 0 ? 361 : 20, Checks.pen(x, 1 - k));
            CrossedSheet read = WordEdges.drawn(k, 0, 1, "ab", "cd");
            Checks.is("ab cd", Checks.words(read, k));
            read.setLetter(k, read.letter(k, 0), read.letter(k, 1), 1);
            Checks.is("ac bd", Checks.words(read, k));
        }
    }

    private static void firstPens() {
        Checks.says("Terms", "At first the letter 0 has the ink 0, the slant 2 and the way 0, and the letter 1"
            + " the ink 3, the slant 6 and the way 1.");
        int[][] due = {{0, 2, 0}, {3, 6, 1}};
        for (CrossedSheet x : new CrossedSheet[] {new CrossedSheet(), Checks.loaded("S66")}) {
            for (int k = 0; k < 2; k++) {
                for (int what = 0; what < 3; what++) {
                    Checks.is(due[k][what], x.letter(k, what));
                }
            }
        }
    }

    /** The number with which the pens of the letters are told in a text. */
    static String pens(int pen0, int pen1) {
        return "p0" + pen0 / 9 + pen0 % 9 + "0p1" + pen1 / 9 + pen1 % 9 + "1";
    }

    /** For pens that are told as 9 * ink + slant. */
    static int distance(int pen, int other) {
        int inks = pen / 9 > other / 9 ? pen / 9 - other / 9 : other / 9 - pen / 9;
        int slants = pen % 9 > other % 9 ? pen % 9 - other % 9 : other % 9 - pen % 9;
        return inks + inks + inks + slants;
    }

    private static void distance() {
        Checks.says("Terms", "The distance of a mark from a letter is 3 * |difference of their inks| +"
            + " |difference of their slants|.");
        for (int pen = 0; pen < 36; pen++) {
            CrossedSheet x = Checks.loaded("S66" + pens(pen, 35 - pen));
            for (int mark = 0; mark < 36; mark++) {
                x.write(mark % 6, mark / 6, 0, mark / 9, mark % 9);
                Checks.is(distance(mark, pen), x.mark(mark % 6, mark / 6, 0, 6));
                Checks.is(distance(mark, 35 - pen), x.mark(mark % 6, mark / 6, 0, 7));
            }
        }
        CrossedSheet farthest = Checks.loaded("S11p0000m00a38p1380m00a00");
        Checks.is(17, farthest.mark(0, 0, 0, 6));
        Checks.is(0, farthest.mark(0, 0, 0, 7));
        Checks.is(0, farthest.mark(0, 0, 1, 6));
        Checks.is(17, farthest.mark(0, 0, 1, 7));
    }

    private static void margin() {
        Checks.says("Terms", "The margin is from 0 to 9, at first 2.");
        CrossedSheet x = new CrossedSheet();
        Checks.is(2, x.about(5));
        for (int margin = 0; margin <= 9; margin++) {
            x.setMargin(margin);
            Checks.is(margin, x.about(5));
        }
        Checks.fails(Checks.ARGUMENT, x, s -> s.setMargin(-1));
        Checks.fails(Checks.ARGUMENT, x, s -> s.setMargin(10));
        // Distances that differ by two, and by three.
        Checks.is(Checks.NONE, Checks.loaded("S11p0000p1040m00a03").mark(0, 0, 0, 4));
        Checks.is(1, Checks.loaded("S11p0000p1030m00a03").mark(0, 0, 0, 4));
    }

    private static void firstRule() {
        Checks.says("Terms", "Where a mark belongs is told by the first of these that applies:");
        CrossedSheet x = Checks.loaded("S21m00a02m00b36m10c02");
        isPlaced(x, 0, 0, 4, 0);
        isPlaced(x, 0, 1, 4, 1);
        x.decide(0, 0, 0, 1);
        isPlaced(x, 0, 0, 1, 1);
        isPlaced(x, 0, 1, 2, 0);
        x.decide(0, 0, 1, 0);
        isPlaced(x, 0, 0, 1, 1);
        isPlaced(x, 0, 1, 1, 0);
        isPlaced(x, 1, 0, 3, 0);
        x.decide(1, 0, 0, 1);
        isPlaced(x, 1, 0, 1, 1);
    }

    /** Rule and letter of a mark in the row 0. */
    private static void isPlaced(CrossedSheet x, int column, int i, int rule, int letter) {
        Checks.is(rule, x.mark(column, 0, i, 5));
        Checks.is(letter, x.mark(column, 0, i, 4));
    }

    private static void ruleOne() {
        Checks.says("Terms", "1: it is decided: it belongs to that letter.");
        for (int k = 0; k < 2; k++) {
            for (String pen : new String[] {"02", "15", "36"}) {
                CrossedSheet alone = Checks.loaded("S11m00a" + pen);
                alone.decide(0, 0, 0, k);
                isPlaced(alone, 0, 0, 1, k);
                for (int i = 0; i < 2; i++) {
                    CrossedSheet pair = Checks.loaded("S11m00a" + pen + "m00b" + pen);
                    pair.decide(0, 0, i, k);
                    isPlaced(pair, 0, i, 1, k);
                }
            }
        }
    }

    private static void ruleTwo() {
        Checks.says("Terms", "2: its cell has another mark, and this is decided: it belongs to the other letter.");
        for (int k = 0; k < 2; k++) {
            for (String pen : new String[] {"02", "15", "36"}) {
                for (int i = 0; i < 2; i++) {
                    CrossedSheet pair = Checks.loaded("S11m00a" + pen + "m00b" + pen);
                    pair.decide(0, 0, 1 - i, k);
                    isPlaced(pair, 0, i, 2, 1 - k);
                    pair.erase(0, 0, 1 - i);
                    isPlaced(pair, 0, 0, pen.equals("15") ? 5 : 3,
                        pen.equals("02") ? 0 : pen.equals("36") ? 1 : Checks.NONE);
                }
            }
        }
        CrossedSheet neighbour = Checks.loaded("S22m00a15m10b15m01c15m11d15");
        neighbour.decide(0, 0, 0, 1);
        isPlaced(neighbour, 1, 0, 5, Checks.NONE);
        Checks.is(5, neighbour.mark(0, 1, 0, 5));
    }

    private static void ruleThree() {
        Checks.says("Terms", "3: it is the only mark of its cell, and its distances from both letters differ by"
            + " more than the margin: it belongs to the nearer letter.");
        for (int margin = 0; margin <= 9; margin++) {
            for (int pen = 0; pen < 36; pen += 5) {
                CrossedSheet x = Checks.loaded("S66v" + margin + pens(pen, 31));
                for (int mark = 0; mark < 36; mark++) {
                    x.write(mark % 6, mark / 6, 0, mark / 9, mark % 9);
                    int nearer = distance(mark, 31) - distance(mark, pen);
                    boolean told = nearer > margin || -nearer > margin;
                    Checks.is(told ? 3 : 5, x.mark(mark % 6, mark / 6, 0, 5));
                    Checks.is(told ? nearer > 0 ? 0 : 1 : Checks.NONE, x.mark(mark % 6, mark / 6, 0, 4));
                }
            }
            differBy(margin);
        }
    }

    /** A mark whose distances differ by just the margin, and by one more, on both sides. */
    private static void differBy(int margin) {
        // Each as far from the pen 0 as its index tells.
        int[] pens = {0, 1, 2, 3, 4, 5, 6, 7, 8, 15, 16};
        for (int by = margin; by <= margin + 1; by++) {
            int due = by == margin ? Checks.NONE : 0;
            isPlaced(Checks.loaded("S11v" + margin + pens(0, pens[by]) + "m00a00"), 0, 0, due == 0 ? 3 : 5, due);
            isPlaced(Checks.loaded("S11v" + margin + pens(pens[by], 0) + "m00a00"), 0, 0, due == 0 ? 3 : 5,
                due == 0 ? 1 : due);
        }
    }

    private static void ruleFour() {
        Checks.says("Terms", "4: its cell has another mark, and the sums (distance of the mark 0 from the letter"
            + " 0) + (distance of the mark 1 from the letter 1) and (distance of the mark 0 from the letter 1) +"
            + " (distance of the mark 1 from the letter 0) differ by more than the margin: both belong to the"
            + " letters of the smaller sum.");
        for (int first = 0; first < 36; first++) {
            for (int margin = 0; margin <= 9; margin++) {
                CrossedSheet x = Checks.loaded("S66v" + margin + pens(12, 31));
                for (int second = 0; second < 36; second++) {
                    int cx = second % 6;
                    int cy = second / 6;
                    x.write(cx, cy, 0, first / 9, first % 9);
                    x.write(cx, cy, 0, second / 9, second % 9);
                    int straight = distance(first, 12) + distance(second, 31);
                    int crossed = distance(first, 31) + distance(second, 12);
                    boolean told = straight - crossed > margin || crossed - straight > margin;
                    int letter = straight < crossed ? 0 : 1;
                    Checks.is(told ? 4 : 5, x.mark(cx, cy, 0, 5));
                    Checks.is(told ? 4 : 5, x.mark(cx, cy, 1, 5));
                    Checks.is(told ? letter : Checks.NONE, x.mark(cx, cy, 0, 4));
                    Checks.is(told ? 1 - letter : Checks.NONE, x.mark(cx, cy, 1, 4));
                }
            }
        }
    }

    private static void ruleFive() {
        Checks.says("Terms", "5: otherwise it is doubtful, and belongs to no letter.");
        CrossedSheet x = Checks.loaded("S31m00a15m10b15m10c15");
        for (int place = 0; place < 3; place++) {
            isPlaced(x, (place + 1) / 2, place / 2, 5, Checks.NONE);
        }
        Checks.is(3, x.about(3));
        for (int k = 0; k < 2; k++) {
            Checks.is(0, x.about(8 + k));
            Checks.is("", Checks.words(x, k));
            Checks.is(Checks.NONE, x.wordAt(k, 0, 0));
            Checks.is(Checks.NONE, x.wordAt(k, 1, 0));
        }
    }
}
