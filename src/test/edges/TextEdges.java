/** What "Terms" says of texts, and the promises 1 to 5. */
final class TextEdges {
    static final Runnable[] ALL = {TextEdges::creation, TextEdges::buffer, TextEdges::sheetText, TextEdges::markPart,
        TextEdges::markRoom, TextEdges::gapPart, TextEdges::marginPart, TextEdges::letterPart,
        TextEdges::laterParts, TextEdges::noBlanks, TextEdges::leftToRight, TextEdges::errorIndex,
        TextEdges::tooSoon, TextEdges::append, TextEdges::clearText, TextEdges::errorPosition, TextEdges::load,
        TextEdges::loadForgets};
    private static final String SIGNS = "abcdefghijklmnopqrstuvwxyz-";
    private static final String PARTS = "mgvp";

    private TextEdges() {
    }

    private static void creation() {
        Checks.says("Promise 1", "Creates a sheet without marks.");
        CrossedSheet x = new CrossedSheet();
        Checks.is("6x6 v2 g2 p20 p361", Views.state(x));
        for (int what = 2; what < 10; what++) {
            Checks.is(what == 5 || what == 6 ? 2 : 0, x.about(what));
        }
        for (int cell = 0; cell < 36; cell++) {
            Checks.is(0, x.marks(cell % 6, cell / 6));
        }
        Checks.is("", Checks.words(x, 0) + Checks.words(x, 1));
        Checks.is(0, x.errorPosition());
        Checks.is(0, x.clearText());
        Checks.fails(Checks.STATE, x, CrossedSheet::undo);
        Checks.fails(Checks.STATE, x, s -> s.restore(0));
        Checks.fails(Checks.STATE, x, s -> s.restore(1));
    }

    private static int errorOf(String text) {
        return Checks.typed(text).errorPosition();
    }

    /** Behind this beginning just these characters are allowed. */
    private static void allows(String beginning, String allowed) {
        for (int c = 0; c < 256; c++) {
            int error = errorOf(beginning + (char) c);
            boolean isAllowed = error == Checks.NONE || error == beginning.length() + 1;
            if (isAllowed != allowed.indexOf(c) >= 0 || !isAllowed && error != beginning.length()) {
                Checks.tell("behind " + beginning + " the character " + c + " has the error position " + error);
            }
        }
        Checks.isTrue(true);
    }

    private static void buffer() {
        Checks.says("Terms", "The object has a text buffer of at most 120 characters.");
        CrossedSheet x = new CrossedSheet();
        for (int length = 1; length <= 120; length++) {
            Checks.is(length, x.append('S'));
        }
        Checks.fails(Checks.STATE, x, s -> s.append('S'));
        Checks.is(120, x.clearText());
        Checks.is(1, x.append('S'));
    }

    private static void sheetText() {
        Checks.says("Terms", "A sheet is the letter S, the digits W and H (1 to 9 each), and then any number of"
            + " parts, in any order:");
        allows("", "S");
        allows("S", "123456789");
        allows("S6", "123456789");
        allows("S66", PARTS);
        Checks.is(Checks.NONE, errorOf("S19"));
        Checks.is(Checks.NONE, errorOf("S91"));
        String[] parts = {"m00a02", "g3", "v7", "p1370"};
        for (int order = 0; order < 256; order++) {
            String text = "S23" + parts[order % 4] + parts[order / 4 % 4] + parts[order / 16 % 4]
                + parts[order / 64];
            boolean fits = text.split("m", -1).length <= 3;
            Checks.isTrue(fits == (errorOf(text) == Checks.NONE));
        }
    }

    private static void markPart() {
        Checks.says("Terms", "a mark: the letter m, the digits of the column and of the row of a cell that has"
            + " fewer than two marks so far, its sign (a lower-case letter a to z for 0 to 25, or the character -"
            + " for 26), the digit of its ink (0 to 3) and the digit of its slant (0 to 8);");
        String digits = "012345678";
        for (int w = 1; w <= 9; w += 2) {
            for (int h = 1; h <= 9; h += 2) {
                allows("S" + w + h + "m", digits.substring(0, w));
                allows("S" + w + h + "m" + (w - 1), digits.substring(0, h));
            }
        }
        allows("S66m05", SIGNS);
        allows("S66m05-", "0123");
        allows("S66m05-3", "012345678");
        allows("S66m05-38", PARTS);
        for (int sign = 0; sign <= 26; sign++) {
            String pen = "" + sign % 4 + sign % 9;
            CrossedSheet x = Checks.loaded("S99m84" + SIGNS.charAt(sign) + pen);
            Checks.is("9x9 v2 g2 p20 p361 m84," + sign + "," + sign % 4 + "," + sign % 9 + ",-9", Views.state(x));
        }
        Checks.is("1x1 v2 g2 p20 p361 m00,25,3,0,-9 m00,0,0,8,-9", Views.state(Checks.loaded("S11m00z30m00a08")));
    }

    /** The cell has two marks, its column, and the sheet. */
    private static void markRoom() {
        Checks.says("Terms", "(an m is not allowed if all cells have two marks, and a column is not allowed if"
            + " all its cells have);");
        allows("S11", PARTS);
        allows("S11m00a00", PARTS);
        allows("S11m00a00m", "0");
        allows("S11m00a00m0", "0");
        allows("S11m00a00m00b00", "gvp");
        allows("S11m00a00m00b00g1", "gvp");
        allows("S21m00a00m00b00", PARTS);
        allows("S21m00a00m00b00m", "1");
        allows("S21m10a00m10b00m", "0");
        allows("S21m10a00m00b00m", "01");
        allows("S12m00a00m00b00m", "0");
        allows("S12m00a00m00b00m0", "1");
        allows("S12m01a00m01b00m0", "0");
        allows("S12m01a00m00b00m0", "01");
        allows("S12m01a00m01b00m00c00m0", "0");
        allows("S12m01a00m01b00m00c00m00d00", "gvp");
        allows("S22m00a00m00b00m01c00m01d00m", "1");
        allows("S22m10a00m10b00m11c00m11d00m", "0");
        allows("S22m10a00m10b00m11c00m01d00m", "01");
        allows("S22m10a00m10b00m11c00m01d00m1", "1");
        StringBuilder nine = new StringBuilder("S33");
        for (int mark = 0; mark < 18; mark++) {
            allows(nine + "m", mark < 6 ? "012" : mark < 12 ? "12" : "2");
            nine.append('m').append(mark / 6).append(mark % 3).append("a02");
        }
        allows(nine.toString(), "gvp");
        Checks.is(18, Checks.loaded(nine.toString()).about(2));
        Checks.is(9, Checks.loaded(nine.toString()).about(7));
    }

    private static void gapPart() {
        Checks.says("Terms", "the letter g and a digit for the gap (1 to 3);");
        allows("S66g", "123");
        allows("S66g1", PARTS);
        for (int gap = 1; gap <= 3; gap++) {
            Checks.is("6x6 v2 g" + gap + " p20 p361", Views.state(Checks.loaded("S66g" + gap)));
        }
    }

    private static void marginPart() {
        Checks.says("Terms", "the letter v and a digit for the margin (0 to 9);");
        allows("S66v", "0123456789");
        allows("S66v9", PARTS);
        for (int margin = 0; margin <= 9; margin++) {
            Checks.is("6x6 v" + margin + " g2 p20 p361", Views.state(Checks.loaded("S66v" + margin)));
        }
    }

    private static void letterPart() {
        Checks.says("Terms", "the letter p, the digit of a letter (0 or 1), and the digits of its ink (0 to 3),"
            + " its slant (0 to 8) and its way (0 or 1).");
        allows("S66p", "01");
        for (int k = 0; k < 2; k++) {
            allows("S66p" + k, "0123");
            allows("S66p" + k + "3", "012345678");
            allows("S66p" + k + "38", "01");
            allows("S66p" + k + "381", PARTS);
            for (int pen = 0; pen < 72; pen++) {
                CrossedSheet x = Checks.loaded("S66p" + k + pen / 18 + pen / 2 % 9 + pen % 2);
                Checks.is(pen / 18 * 100 + pen / 2 % 9 * 10 + pen % 2, Checks.pen(x, k));
                Checks.is(k == 0 ? 361 : 20, Checks.pen(x, 1 - k));
            }
        }
    }

    private static void laterParts() {
        Checks.says("Terms", "Later parts with g, v and p replace earlier ones.");
        CrossedSheet x = Checks.loaded("S66g3v9p0381p1000g1v0p0110p1281g2v5p1050");
        Checks.is("6x6 v5 g2 p110 p50", Views.state(x));
        Checks.is("1x1 v2 g1 p20 p361", Views.state(Checks.loaded("S11g3g1")));
        Checks.is("1x1 v0 g2 p20 p361", Views.state(Checks.loaded("S11v9v0")));
    }

    private static void noBlanks() {
        Checks.says("Terms", "There are no blanks.");
        String text = Situations.TEXT;
        for (int i = 0; i <= text.length(); i++) {
            Checks.is(i, errorOf(text.substring(0, i) + " " + text.substring(i)));
        }
    }

    private static void leftToRight() {
        Checks.says("Terms", "The text is read from left to right.");
        Checks.is("1x1 v2 g2 p20 p361 m00,1,0,2,-9 m00,0,0,2,-9", Views.state(Checks.loaded("S11m00b02m00a02")));
        Checks.is(15, errorOf("S11m00b02m00a02m00c02m00d02"));
        Checks.is(4, errorOf("S66g4v:p2"));
        Checks.is(0, errorOf("66S"));
    }

    private static void errorIndex() {
        Checks.says("Terms", "The error position is the index of the first character that these rules do not"
            + " allow at its place");
        String text = Situations.TEXT;
        for (int i = 0; i < text.length(); i++) {
            Checks.is(i, errorOf(text.substring(0, i) + (char) 233 + text.substring(i + 1)));
            Checks.is(i, errorOf(text.substring(0, i) + (char) 0 + "S"));
            Checks.is(i, errorOf(text.substring(0, i) + (char) 255));
        }
        String full = "S11" + "v3".repeat(58);
        Checks.is(119, errorOf(full + "0"));
        Checks.is(119, errorOf(full + "S"));
        Checks.is(0, errorOf("v3".repeat(60)));
    }

    private static void tooSoon() {
        Checks.says("Terms", "if the text ends too soon, it is the length of the text.");
        String text = Situations.TEXT;
        int[] ends = {3, 9, 15, 21, 27, 33, 39, 41, 43, 48};
        int part = 0;
        for (int length = 0; length <= text.length(); length++) {
            boolean ended = part < ends.length && length == ends[part];
            part += ended ? 1 : 0;
            Checks.is(ended ? Checks.NONE : length, errorOf(text.substring(0, length)));
        }
        String full = "S11" + "v3".repeat(58);
        Checks.is(Checks.NONE, errorOf(full));
        Checks.is(120, errorOf(full + "v"));
        Checks.is(Checks.NONE, errorOf("S11m00a00" + "p1371" + "g3".repeat(53)));
    }

    private static void append() {
        Checks.says("Promise 2", "Appends a character to the text buffer.");
        CrossedSheet x = new CrossedSheet();
        x.append('S');
        x.append('1');
        Checks.is(2, x.errorPosition());
        x.append('1');
        Checks.is(Checks.NONE, x.errorPosition());
        x.append('1');
        Checks.is(3, x.errorPosition());
        Checks.says("Promise 2", "`c`: character code, 0 to 255");
        for (int c = 0; c <= 255; c++) {
            Checks.is(1, new CrossedSheet().append(c));
            Checks.is(c == 'S' ? 1 : 0, errorOf("" + (char) c));
        }
        Checks.says("Promise 2", "Returns the new length of the text.");
        CrossedSheet y = new CrossedSheet();
        for (int length = 1; length <= 120; length++) {
            Checks.is(length, y.append(length));
        }
        Checks.says("Promise 2", "Throws `IllegalArgumentException` if c is out of range");
        for (int c : Checks.outside(0, 255)) {
            Checks.refused(Checks.ARGUMENT, s -> s.append(c));
            Checks.refusedIn(CrossedSheet::new, Checks.ARGUMENT, s -> s.append(c));
            Checks.refusedIn(Situations::fullText, Checks.ARGUMENT, s -> s.append(c));
        }
        Checks.refused(Checks.ARGUMENT, s -> s.append('S' + 256));
        Checks.says("Promise 2", "Throws `IllegalStateException` if the text already has 120 characters");
        Checks.refusedIn(Situations::fullText, Checks.STATE, s -> s.append(0));
        Checks.refusedIn(Situations::fullText, Checks.STATE, s -> s.append(255));
        Checks.is(120, Situations.fullText().clearText());
    }

    private static void clearText() {
        Checks.says("Promise 3", "Empties the text buffer.");
        CrossedSheet x = Checks.typed("S11");
        x.clearText();
        Checks.is(0, x.errorPosition());
        Checks.is(0, x.clearText());
        Checks.is(1, x.append('S'));
        Checks.is(1, x.errorPosition());
        Checks.is(Views.everything(Situations.used()), Views.everything(Situations.usedWithoutText()));
        Checks.says("Promise 3", "Returns the previous length of the text.");
        for (int length = 0; length <= 120; length++) {
            Checks.is(length, Checks.typed("x".repeat(length)).clearText());
        }
    }

    private static void errorPosition() {
        Checks.says("Promise 4", "Checks the text.");
        Checks.changesNothing(CrossedSheet::errorPosition);
        Checks.changesNothingIn(Situations::usedWithoutSheet, CrossedSheet::errorPosition);
        Checks.changesNothingIn(Situations::usedWithoutText, CrossedSheet::errorPosition);
        Checks.changesNothingIn(Situations::fullText, CrossedSheet::errorPosition);
        Checks.says("Promise 4", "Returns the error position of the text; NONE if it is a sheet.");
        Checks.is(49, Situations.usedWithoutSheet().errorPosition());
        Checks.is(0, Situations.usedWithoutText().errorPosition());
        Checks.is(Checks.NONE, Situations.used().errorPosition());
        Checks.is(Checks.NONE, Situations.fullText().errorPosition());
        Checks.is(0, new CrossedSheet().errorPosition());
    }

    private static void load() {
        Checks.says("Promise 5", "Makes everything as in a new object, and then as the text tells.");
        CrossedSheet fresh = Checks.loaded("S66");
        Checks.is(Views.everything(new CrossedSheet()), Views.everything(fresh));
        CrossedSheet x = Situations.used();
        x.clearText();
        Checks.type(x, "S66");
        x.load();
        Checks.is(Views.everything(new CrossedSheet()), Views.everything(x));
        CrossedSheet decided = Checks.loaded("S11m00a02");
        decided.decide(0, 0, 0, 1);
        decided.load();
        Checks.is("1x1 v2 g2 p20 p361 m00,0,0,2,-9", Views.state(decided));
        decided.write(0, 0, 5, 0, 0);
        decided.load();
        Checks.is("1x1 v2 g2 p20 p361 m00,0,0,2,-9", Views.state(decided));
        CrossedSheet told = Checks.loaded(Situations.TEXT);
        Checks.is("3x2 v3 g1 p20 p371 m00,0,0,2,-9 m01,26,0,2,-9 m10,1,0,2,-9 m10,23,3,6,-9 m11,24,1,5,-9"
            + " m21,2,3,6,-9", Views.state(told));
        Checks.says("Promise 5", "Returns the number of marks.");
        for (int marks = 0; marks <= 19; marks++) {
            StringBuilder text = new StringBuilder("S99");
            for (int mark = 0; mark < marks; mark++) {
                text.append('m').append(mark / 4).append(8 - mark / 2 % 2).append("a02");
            }
            CrossedSheet y = Checks.typed(text.toString());
            Checks.is(marks, y.load());
            Checks.is(marks, y.about(2));
        }
        Checks.says("Promise 5", "Throws `IllegalStateException` if the text is not a sheet");
        Checks.refusedIn(Situations::usedWithoutSheet, Checks.STATE, CrossedSheet::load);
        Checks.refusedIn(Situations::usedWithoutText, Checks.STATE, CrossedSheet::load);
        Checks.refusedIn(CrossedSheet::new, Checks.STATE, CrossedSheet::load);
        Checks.refusedIn(() -> badlyTyped("S99m00a02g1v0p0000p1000?"), Checks.STATE, CrossedSheet::load);
        Checks.refusedIn(() -> badlyTyped("S11m00a02m00b02m00c02"), Checks.STATE, CrossedSheet::load);
        Checks.refusedIn(() -> badlyTyped("S11" + "v3".repeat(58) + "v"), Checks.STATE, CrossedSheet::load);
    }

    private static CrossedSheet badlyTyped(String text) {
        CrossedSheet x = Situations.usedWithoutText();
        Checks.type(x, text);
        return x;
    }

    private static void loadForgets() {
        Checks.says("Promise 5", "Forgets all remembered states and empties both save slots.");
        CrossedSheet x = Situations.bothSaved();
        x.load();
        Checks.fails(Checks.STATE, x, CrossedSheet::undo);
        Checks.fails(Checks.STATE, x, s -> s.restore(0));
        Checks.fails(Checks.STATE, x, s -> s.restore(1));
        CrossedSheet y = Situations.fullOfStates();
        y.load();
        Checks.is(0, Checks.remembered(y));
        y.setMargin(1);
        Checks.is(1, Checks.remembered(y));
        Checks.says("Promise 5", "Keeps the text.");
        Checks.is(Situations.TEXT.length(), x.clearText());
        CrossedSheet again = Checks.loaded("S11m00a02");
        again.erase(0, 0, 0);
        Checks.is(1, again.load());
        Checks.is(1, again.load());
        Checks.is(Checks.NONE, again.errorPosition());
        Checks.is(10, again.append('v'));
    }
}
