import java.util.function.LongSupplier;

/** For each promise of the document: ordinary inputs, the edges that it names, and wrong inputs. */
public final class PromiseTest {
    private static final int NONE = CrossedSheet.NONE;
    private static final Class<?> BOUNDS = IndexOutOfBoundsException.class;
    private static final Class<?> ARGUMENT = IllegalArgumentException.class;
    private static final Class<?> STATE = IllegalStateException.class;
    private static final int LEAST = Integer.MIN_VALUE;
    private static final int MOST = Integer.MAX_VALUE;

    private static int promise = 0;
    private static int checks = 0;
    private static int wrong = 0;

    private static void is(long due, long got) {
        checks++;
        if (due != got) {
            wrong++;
            StackTraceElement line = new Throwable().getStackTrace()[1];
            System.out.println("promise " + promise + ", line " + line.getLineNumber() + ": answered " + got
                + ", due is " + due);
        }
    }

    private static void fails(Class<?> due, LongSupplier call) {
        checks++;
        String got;
        try {
            got = "" + call.getAsLong();
        } catch (RuntimeException e) {
            if (e.getClass() == due) {
                return;
            }
            got = e.toString();
        }
        wrong++;
        StackTraceElement line = new Throwable().getStackTrace()[1];
        System.out.println("promise " + promise + ", line " + line.getLineNumber() + ": " + got + ", due is "
            + due.getSimpleName());
    }

    private static void type(CrossedSheet x, String text) {
        x.clearText();
        for (int i = 0; i < text.length(); i++) {
            x.append(text.charAt(i));
        }
    }

    private static CrossedSheet loaded(String text) {
        CrossedSheet x = new CrossedSheet();
        type(x, text);
        x.load();
        return x;
    }

    /** A word as text, with what sign says behind its end. */
    private static void isWord(String due, CrossedSheet x, int k, int n) {
        is(due.length(), x.wordLength(k, n));
        for (int j = 0; j < due.length(); j++) {
            is(due.charAt(j) == '-' ? 26 : due.charAt(j) - 'a', x.sign(k, n, j));
        }
        is(NONE, x.sign(k, n, due.length()));
    }

    /** W, H, marks, doubtful, decided, margin, gap, full cells, of the letter 0, of the letter 1. */
    private static void isAbout(CrossedSheet x, int... due) {
        for (int what = 0; what < due.length; what++) {
            is(due[what], x.about(what));
        }
    }

    private static void isLetter(CrossedSheet x, int k, int ink, int slant, int way) {
        is(ink, x.letter(k, 0));
        is(slant, x.letter(k, 1));
        is(way, x.letter(k, 2));
    }

    private static void newObject() {
        CrossedSheet x = new CrossedSheet();
        isAbout(x, 6, 6, 0, 0, 0, 2, 2, 0, 0, 0);
        isLetter(x, 0, 0, 2, 0);
        isLetter(x, 1, 3, 6, 1);
        is(0, x.marks(5, 5));
        is(0, x.clearText());
        fails(STATE, x::undo);
        fails(STATE, () -> x.restore(0));
        fails(STATE, () -> x.restore(1));
        is(-9, CrossedSheet.NONE);
    }

    private static void append() {
        CrossedSheet x = new CrossedSheet();
        is(1, x.append(0));
        is(2, x.append(255));
        fails(ARGUMENT, () -> x.append(-1));
        fails(ARGUMENT, () -> x.append(256));
        fails(ARGUMENT, () -> x.append(LEAST));
        for (int length = 3; length <= 120; length++) {
            is(length, x.append('m'));
        }
        fails(STATE, () -> x.append('m'));
        fails(ARGUMENT, () -> x.append(256));
        is(120, x.clearText());
    }

    private static void clearText() {
        CrossedSheet x = new CrossedSheet();
        is(0, x.clearText());
        type(x, "S66");
        is(3, x.clearText());
        is(0, x.clearText());
        is(0, x.errorPosition());
        is(1, x.append('S'));
        is(1, x.errorPosition());
    }

    private static void isErrorAt(int due, String text) {
        CrossedSheet x = new CrossedSheet();
        type(x, text);
        int got = x.errorPosition();
        if (due != got) {
            System.out.println("the text " + text);
        }
        is(due, got);
    }

    private static void errorPosition() {
        isErrorAt(0, "");
        isErrorAt(0, "s66");
        isErrorAt(1, "S");
        isErrorAt(1, "S06");
        isErrorAt(2, "S6");
        isErrorAt(2, "S60");
        isErrorAt(NONE, "S11");
        isErrorAt(NONE, "S99");
        isErrorAt(1, "S:1");
        isErrorAt(1, "S/1");
        isErrorAt(2, "S1:");
        isErrorAt(2, "S1/");
        isErrorAt(3, "S99S");
        isErrorAt(3, "S66 ");
        isErrorAt(3, "S66" + (char) 233);
        isErrorAt(4, "S66m");
        isErrorAt(4, "S56m5");
        isErrorAt(6, "S56m45");
        isErrorAt(5, "S56m46a00");
        isErrorAt(5, "S65m5");
        isErrorAt(5, "S65m55a00");
        isErrorAt(6, "S65m54");
        isErrorAt(6, "S65m54A00");
        isErrorAt(6, "S65m54`00");
        isErrorAt(6, "S65m54{00");
        isErrorAt(6, "S65m54000");
        isErrorAt(7, "S65m54z");
        isErrorAt(7, "S65m54z40");
        isErrorAt(8, "S65m54z3");
        isErrorAt(8, "S65m54z39");
        isErrorAt(NONE, "S65m54z38m00a00m10-38");
        isErrorAt(4, "S66g");
        isErrorAt(4, "S66g0");
        isErrorAt(4, "S66g4");
        isErrorAt(NONE, "S66g1g3");
        isErrorAt(4, "S66v");
        isErrorAt(4, "S66v-");
        isErrorAt(4, "S66v:");
        isErrorAt(4, "S66v/");
        isErrorAt(NONE, "S66v0v9");
        isErrorAt(4, "S66p");
        isErrorAt(4, "S66p2000");
        isErrorAt(5, "S66p1");
        isErrorAt(5, "S66p1400");
        isErrorAt(6, "S66p13");
        isErrorAt(6, "S66p0390");
        isErrorAt(7, "S66p038");
        isErrorAt(7, "S66p1382");
        isErrorAt(NONE, "S66p0381p1000v3g1");
        isErrorAt(15, "S11m00a00m00b00m");
        isErrorAt(NONE, "S11m00a00m00b00v1");
        isErrorAt(16, "S21m00a00m00b00m0");
        isErrorAt(NONE, "S21m00a00m00b00m10c00");
        isErrorAt(17, "S12m00a00m00b00m00");
        isErrorAt(NONE, "S12m00a00m00b00m01c00");
    }

    private static void load() {
        CrossedSheet x = new CrossedSheet();
        x.write(0, 0, 1, 0, 2);
        x.setGap(3);
        x.save(0);
        x.save(1);
        type(x, "S95v7g1p1280m84z31m84-02m00a02p1370v6");
        is(3, x.load());
        isAbout(x, 9, 5, 3, 0, 0, 6, 1, 1, 2, 1);
        isLetter(x, 0, 0, 2, 0);
        isLetter(x, 1, 3, 7, 0);
        is(25, x.mark(8, 4, 0, 0));
        is(3, x.mark(8, 4, 0, 1));
        is(1, x.mark(8, 4, 0, 2));
        is(26, x.mark(8, 4, 1, 0));
        fails(STATE, x::undo);
        fails(STATE, () -> x.restore(0));
        fails(STATE, () -> x.restore(1));
        is(NONE, x.errorPosition());
        x.write(1, 1, 0, 0, 0);
        x.save(1);
        x.append('?');
        fails(STATE, x::load);
        is(4, x.about(2));
        is(4, x.restore(1));
        type(x, "S11");
        is(0, x.load());
        isAbout(x, 1, 1, 0, 0, 0, 2, 2, 0, 0, 0);
        isLetter(x, 1, 3, 6, 1);
        is(3, x.clearText());
    }

    private static void about() {
        CrossedSheet x = loaded("S34m00a02m00b36m10c15m11d14m21e36m22f02m22g02");
        isAbout(x, 3, 4, 7, 3, 0, 2, 2, 2, 2, 2);
        x.decide(1, 0, 0, 1);
        isAbout(x, 3, 4, 7, 2, 1, 2, 2, 2, 2, 3);
        x.decide(2, 2, 1, 1);
        isAbout(x, 3, 4, 7, 0, 2, 2, 2, 2, 3, 4);
        fails(ARGUMENT, () -> x.about(-1));
        fails(ARGUMENT, () -> x.about(10));
        fails(ARGUMENT, () -> x.about(MOST));
    }

    private static void letter() {
        CrossedSheet x = loaded("S61m00a02m10b02m40c02m50d02m30e36p0120");
        isLetter(x, 0, 1, 2, 0);
        is(2, x.letter(0, 3));
        is(2, x.letter(0, 4));
        is(1, x.letter(1, 3));
        is(1, x.letter(1, 4));
        is(2, x.letter(0, 4));
        x.erase(3, 0, 0);
        is(0, x.letter(1, 3));
        is(0, x.letter(1, 4));
        fails(BOUNDS, () -> x.letter(-1, 0));
        fails(BOUNDS, () -> x.letter(2, 5));
        fails(ARGUMENT, () -> x.letter(1, -1));
        fails(ARGUMENT, () -> x.letter(0, 5));
    }

    private static void marks() {
        CrossedSheet x = loaded("S23m12a00m12b00m01c00");
        is(2, x.marks(1, 2));
        is(1, x.marks(0, 1));
        is(0, x.marks(0, 2));
        fails(BOUNDS, () -> x.marks(2, 0));
        fails(BOUNDS, () -> x.marks(0, 3));
        fails(BOUNDS, () -> x.marks(-1, 0));
        fails(BOUNDS, () -> x.marks(0, -1));
        fails(BOUNDS, () -> x.marks(MOST, LEAST));
    }

    /** Rule, letter. */
    private static void isPlaced(CrossedSheet x, int cell, int i, int rule, int letter) {
        is(rule, x.mark(cell, 0, i, 5));
        is(letter, x.mark(cell, 0, i, 4));
    }

    private static void mark() {
        CrossedSheet x = loaded("S91m00z14m10b15m20c36m30d36m30e02m40f02m40g02m50h15m50i14m60j25");
        is(25, x.mark(0, 0, 0, 0));
        is(1, x.mark(0, 0, 0, 1));
        is(4, x.mark(0, 0, 0, 2));
        is(NONE, x.mark(0, 0, 0, 3));
        is(5, x.mark(0, 0, 0, 6));
        is(8, x.mark(0, 0, 0, 7));
        isPlaced(x, 0, 0, 3, 0);
        isPlaced(x, 1, 0, 5, NONE);
        isPlaced(x, 2, 0, 3, 1);
        isPlaced(x, 3, 0, 4, 1);
        isPlaced(x, 3, 1, 4, 0);
        isPlaced(x, 4, 0, 5, NONE);
        isPlaced(x, 4, 1, 5, NONE);
        isPlaced(x, 5, 0, 5, NONE);
        isPlaced(x, 5, 1, 5, NONE);
        isPlaced(x, 6, 0, 3, 1);
        x.setMargin(1);
        isPlaced(x, 5, 0, 4, 1);
        isPlaced(x, 5, 1, 4, 0);
        isPlaced(x, 1, 0, 5, NONE);
        x.setMargin(0);
        isPlaced(x, 1, 0, 3, 0);
        x.setMargin(3);
        isPlaced(x, 0, 0, 5, NONE);
        x.decide(4, 0, 1, 0);
        is(0, x.mark(4, 0, 1, 3));
        isPlaced(x, 4, 1, 1, 0);
        isPlaced(x, 4, 0, 2, 1);
        x.decide(4, 0, 0, 1);
        isPlaced(x, 4, 0, 1, 1);
        isPlaced(x, 4, 1, 1, 0);
        x.decide(4, 0, 1, 2);
        isPlaced(x, 4, 0, 1, 1);
        isPlaced(x, 4, 1, 2, 0);
        x.decide(2, 0, 0, 0);
        isPlaced(x, 2, 0, 1, 0);
        fails(BOUNDS, () -> x.mark(9, 0, 0, 0));
        fails(BOUNDS, () -> x.mark(0, 1, 0, 0));
        fails(BOUNDS, () -> x.mark(0, 0, 1, 8));
        fails(BOUNDS, () -> x.mark(3, 0, 2, 0));
        fails(BOUNDS, () -> x.mark(3, 0, -1, 0));
        fails(BOUNDS, () -> x.mark(8, 0, 0, 0));
        fails(ARGUMENT, () -> x.mark(0, 0, 0, 8));
        fails(ARGUMENT, () -> x.mark(0, 0, 0, -1));
    }

    /** Row 0: a b . . -, row 2: . c . d . of the letter 0. */
    private static final String CUT = "S53m00a02m10b02m40-02m12c02m32d02";

    private static void wordLength() {
        CrossedSheet x = loaded(CUT);
        is(2, x.wordLength(0, 0));
        is(2, x.wordLength(0, 1));
        x.setGap(3);
        is(4, x.wordLength(0, 0));
        fails(BOUNDS, () -> x.wordLength(0, 1));
        fails(BOUNDS, () -> x.wordLength(1, 0));
        fails(BOUNDS, () -> x.wordLength(0, -1));
        fails(BOUNDS, () -> x.wordLength(2, 0));
        fails(BOUNDS, () -> x.wordLength(-1, 0));
        fails(BOUNDS, () -> x.wordLength(0, MOST));
        CrossedSheet full = new CrossedSheet();
        type(full, "S99g1");
        full.load();
        for (int cell = 0; cell < 81; cell++) {
            full.write(cell % 9, cell / 9, 26, 0, 2);
        }
        is(1, full.letter(0, 3));
        is(73, full.wordLength(0, 0));
    }

    private static void sign() {
        CrossedSheet x = loaded(CUT);
        isWord("ab", x, 0, 0);
        isWord("cd", x, 0, 1);
        x.setGap(3);
        isWord("abcd", x, 0, 0);
        x.setGap(1);
        isWord("c", x, 0, 1);
        isWord("d", x, 0, 2);
        is(NONE, x.sign(0, 0, MOST));
        fails(ARGUMENT, () -> x.sign(0, 0, -1));
        fails(ARGUMENT, () -> x.sign(0, 2, LEAST));
        fails(BOUNDS, () -> x.sign(0, 3, -1));
        fails(BOUNDS, () -> x.sign(1, 0, 0));
        fails(BOUNDS, () -> x.sign(2, 0, 0));
        fails(BOUNDS, () -> x.sign(-1, 0, 0));
        hyphens();
        bothWays();
    }

    private static void hyphens() {
        CrossedSheet notLastOfLine = loaded("S42m00-02m30b02m01c02");
        isWord("-", notLastOfLine, 0, 0);
        isWord("b", notLastOfLine, 0, 1);
        isWord("c", notLastOfLine, 0, 2);
        CrossedSheet lastOfLetter = loaded("S22m00a02m10b02m11-02");
        isWord("ab", lastOfLetter, 0, 0);
        isWord("-", lastOfLetter, 0, 1);
        CrossedSheet joinedAgain = loaded("S24m00a02m10-02m01-02m02-02m12-02m03b02");
        isWord("a-b", joinedAgain, 0, 0);
        is(1, joinedAgain.letter(0, 3));
        CrossedSheet doubled = loaded("S32m00a02m10-02m20-02m11b02");
        isWord("a-b", doubled, 0, 0);
        CrossedSheet joinedOnce = loaded("S42m00a02m10-02m01b02m31-02");
        isWord("ab", joinedOnce, 0, 0);
        isWord("-", joinedOnce, 0, 1);
        CrossedSheet inside = loaded("S32m00a02m10-02m20b02m01c02");
        isWord("a-b", inside, 0, 0);
        isWord("c", inside, 0, 1);
    }

    private static void bothWays() {
        CrossedSheet x = loaded("S33m00a02m10b02m01c02m00x36m01y36m10z36g1");
        isWord("ab", x, 0, 0);
        isWord("c", x, 0, 1);
        isWord("xy", x, 1, 0);
        isWord("z", x, 1, 1);
        x.setLetter(0, 0, 2, 1);
        isWord("ac", x, 0, 0);
        isWord("b", x, 0, 1);
        x.setLetter(1, 3, 6, 0);
        isWord("xz", x, 1, 0);
        isWord("y", x, 1, 1);
        CrossedSheet otherInGap = loaded("S41m00a02m10x36m20x36m30b02");
        is(2, otherInGap.letter(0, 3));
        is(2, otherInGap.letter(1, 3));
    }

    private static void wordAt() {
        CrossedSheet x = loaded(CUT + "m00y36");
        is(0, x.wordAt(0, 0, 0));
        is(0, x.wordAt(1, 0, 0));
        is(0, x.wordAt(0, 1, 0));
        is(1, x.wordAt(0, 4, 0));
        is(1, x.wordAt(0, 1, 2));
        is(1, x.wordAt(0, 3, 2));
        is(NONE, x.wordAt(0, 2, 2));
        is(NONE, x.wordAt(1, 1, 0));
        fails(BOUNDS, () -> x.wordAt(2, 0, 0));
        fails(BOUNDS, () -> x.wordAt(-1, 0, 0));
        fails(BOUNDS, () -> x.wordAt(0, 5, 0));
        fails(BOUNDS, () -> x.wordAt(0, 0, 3));
        fails(BOUNDS, () -> x.wordAt(0, -1, 0));
        fails(BOUNDS, () -> x.wordAt(0, 0, -1));
    }

    private static void write() {
        CrossedSheet x = new CrossedSheet();
        is(0, x.write(5, 0, 26, 3, 8));
        is(1, x.write(5, 0, 0, 0, 0));
        is(26, x.mark(5, 0, 0, 0));
        is(3, x.mark(5, 0, 0, 1));
        is(8, x.mark(5, 0, 0, 2));
        is(0, x.mark(5, 0, 1, 0));
        is(NONE, x.mark(5, 0, 1, 3));
        is(1, x.about(7));
        fails(STATE, () -> x.write(5, 0, 0, 0, 0));
        fails(ARGUMENT, () -> x.write(5, 0, 27, 0, 0));
        fails(ARGUMENT, () -> x.write(0, 0, -1, 0, 0));
        fails(ARGUMENT, () -> x.write(0, 0, 0, 4, 0));
        fails(ARGUMENT, () -> x.write(0, 0, 0, -1, 0));
        fails(ARGUMENT, () -> x.write(0, 0, 0, 0, 9));
        fails(ARGUMENT, () -> x.write(0, 0, 0, 0, -1));
        fails(BOUNDS, () -> x.write(6, 0, 27, 4, 9));
        fails(BOUNDS, () -> x.write(0, 6, 0, 0, 0));
        fails(BOUNDS, () -> x.write(-1, 0, 0, 0, 0));
        fails(BOUNDS, () -> x.write(0, -1, 0, 0, 0));
        is(2, x.about(2));
        is(1, x.undo());
        is(0, x.undo());
        is(0, x.about(2));
    }

    private static void erase() {
        CrossedSheet x = loaded("S22m00a02m00b36m11c02");
        x.decide(0, 0, 1, 0);
        is(0, x.erase(0, 0, 0));
        is(1, x.marks(0, 0));
        is(1, x.mark(0, 0, 0, 0));
        is(3, x.mark(0, 0, 0, 1));
        is(6, x.mark(0, 0, 0, 2));
        is(0, x.mark(0, 0, 0, 3));
        fails(BOUNDS, () -> x.erase(0, 0, 1));
        is(1, x.erase(0, 0, 0));
        fails(BOUNDS, () -> x.erase(0, 0, 0));
        is(0, x.write(0, 0, 7, 0, 2));
        is(NONE, x.mark(0, 0, 0, 3));
        is(1, x.write(0, 0, 8, 0, 2));
        is(8, x.erase(0, 0, 1));
        is(7, x.mark(0, 0, 0, 0));
        fails(BOUNDS, () -> x.erase(2, 0, 0));
        fails(BOUNDS, () -> x.erase(0, 2, 0));
        fails(BOUNDS, () -> x.erase(1, 1, -1));
        fails(BOUNDS, () -> x.erase(1, 1, MOST));
        is(2, x.about(2));
        is(5, x.undo());
        is(2, x.marks(0, 0));
    }

    private static void decide() {
        CrossedSheet x = loaded("S31m00a02m00b02m10c15m20d15");
        is(4, x.about(3));
        is(3, x.decide(1, 0, 0, 0));
        is(1, x.decide(0, 0, 1, 1));
        is(0, x.mark(0, 0, 0, 4));
        fails(STATE, () -> x.decide(0, 0, 0, 1));
        is(1, x.decide(0, 0, 0, 0));
        is(1, x.decide(0, 0, 0, 0));
        fails(STATE, () -> x.decide(0, 0, 1, 0));
        is(1, x.decide(0, 0, 1, 2));
        is(NONE, x.mark(0, 0, 1, 3));
        is(3, x.decide(0, 0, 0, 2));
        is(3, x.decide(0, 0, 1, 2));
        is(4, x.decide(1, 0, 0, 2));
        is(0, x.about(4));
        fails(BOUNDS, () -> x.decide(3, 0, 0, 3));
        fails(BOUNDS, () -> x.decide(0, 1, 0, 0));
        fails(BOUNDS, () -> x.decide(1, 0, 1, 0));
        fails(BOUNDS, () -> x.decide(1, 0, -1, 0));
        fails(ARGUMENT, () -> x.decide(1, 0, 0, 3));
        fails(ARGUMENT, () -> x.decide(1, 0, 0, -1));
        fails(ARGUMENT, () -> x.decide(1, 0, 0, NONE));
        is(7, x.undo());
        is(0, x.mark(1, 0, 0, 3));
    }

    private static void setLetter() {
        CrossedSheet x = loaded("S31m00a02m10b15m20c36");
        is(1, x.about(3));
        is(0, x.setLetter(0, 1, 5, 1));
        isLetter(x, 0, 1, 5, 1);
        isLetter(x, 1, 3, 6, 1);
        is(3, x.setLetter(1, 1, 5, 0));
        isLetter(x, 1, 1, 5, 0);
        is(0, x.setLetter(1, 3, 8, 1));
        is(1, x.setLetter(0, 0, 0, 0));
        fails(BOUNDS, () -> x.setLetter(2, 4, 9, 2));
        fails(BOUNDS, () -> x.setLetter(-1, 0, 0, 0));
        fails(ARGUMENT, () -> x.setLetter(0, 4, 0, 0));
        fails(ARGUMENT, () -> x.setLetter(0, -1, 0, 0));
        fails(ARGUMENT, () -> x.setLetter(0, 0, 9, 0));
        fails(ARGUMENT, () -> x.setLetter(0, 0, -1, 0));
        fails(ARGUMENT, () -> x.setLetter(0, 0, 0, 2));
        fails(ARGUMENT, () -> x.setLetter(0, 0, 0, -1));
        is(3, x.undo());
        isLetter(x, 0, 1, 5, 1);
    }

    private static void setMargin() {
        CrossedSheet x = new CrossedSheet();
        is(2, x.setMargin(9));
        is(9, x.setMargin(0));
        is(0, x.setMargin(0));
        is(0, x.about(5));
        fails(ARGUMENT, () -> x.setMargin(10));
        fails(ARGUMENT, () -> x.setMargin(-1));
        is(2, x.undo());
        is(1, x.undo());
        is(9, x.about(5));
    }

    private static void setGap() {
        CrossedSheet x = loaded("S71m00a02m20b02m50c02m60d02");
        is(2, x.letter(0, 3));
        is(2, x.setGap(3));
        is(1, x.letter(0, 3));
        is(3, x.setGap(1));
        is(3, x.letter(0, 3));
        is(1, x.about(6));
        fails(ARGUMENT, () -> x.setGap(0));
        fails(ARGUMENT, () -> x.setGap(4));
        is(1, x.undo());
        is(3, x.about(6));
    }

    private static void turn() {
        CrossedSheet x = loaded("S32m00a02m10b02m21c36m21d03m01e36v1g1");
        x.decide(2, 1, 1, 0);
        is(4, x.turn());
        isAbout(x, 2, 3, 5, 0, 1, 1, 1, 1, 3, 2);
        isLetter(x, 0, 0, 6, 1);
        isLetter(x, 1, 3, 2, 0);
        is(0, x.mark(1, 0, 0, 0));
        is(6, x.mark(1, 0, 0, 2));
        is(1, x.mark(1, 1, 0, 0));
        is(2, x.mark(0, 2, 0, 0));
        is(3, x.mark(0, 2, 0, 1));
        is(2, x.mark(0, 2, 0, 2));
        is(NONE, x.mark(0, 2, 0, 3));
        is(3, x.mark(0, 2, 1, 0));
        is(5, x.mark(0, 2, 1, 2));
        is(0, x.mark(0, 2, 1, 3));
        is(4, x.mark(0, 0, 0, 0));
        is(0, x.marks(0, 1));
        isWord("d", x, 0, 0);
        isWord("ab", x, 0, 1);
        is(1, x.undo());
        isAbout(x, 3, 2, 5, 0, 1, 1, 1, 1, 3, 2);
        is(2, x.mark(0, 0, 0, 2));
        x.turn();
        x.turn();
        x.turn();
        x.turn();
        isLetter(x, 0, 0, 2, 0);
        isLetter(x, 1, 3, 6, 1);
        is(0, x.mark(0, 0, 0, 0));
        is(3, x.mark(2, 1, 1, 0));
        CrossedSheet oneLetter = loaded(CUT);
        is(3, oneLetter.turn());
        isWord("cd", oneLetter, 0, 0);
        isWord("ab", oneLetter, 0, 1);
        isWord("-", oneLetter, 0, 2);
        CrossedSheet wide = loaded("S91m80a02");
        wide.turn();
        is(1, wide.marks(0, 8));
        wide.turn();
        is(1, wide.marks(0, 0));
    }

    private static void undo() {
        CrossedSheet x = new CrossedSheet();
        fails(STATE, x::undo);
        x.setMargin(2);
        is(0, x.undo());
        fails(STATE, x::undo);
        for (int i = 0; i < 15; i++) {
            x.setMargin(i % 10);
        }
        for (int left = 13; left >= 0; left--) {
            is(left, x.undo());
            is(left % 10, x.about(5));
        }
        fails(STATE, x::undo);
        is(0, x.about(5));
        allActions(x);
    }

    private static void allActions(CrossedSheet x) {
        type(x, "S41m00a02m00b36m10c15p1361");
        x.load();
        x.write(3, 0, 9, 1, 1);
        x.erase(0, 0, 0);
        x.decide(1, 0, 0, 1);
        x.setLetter(0, 1, 1, 1);
        x.setMargin(8);
        x.setGap(1);
        x.turn();
        is(6, x.undo());
        is(4, x.about(0));
        is(5, x.undo());
        is(2, x.about(6));
        is(4, x.undo());
        is(2, x.about(5));
        is(3, x.undo());
        isLetter(x, 0, 0, 2, 0);
        is(2, x.undo());
        is(NONE, x.mark(1, 0, 0, 3));
        is(1, x.undo());
        is(0, x.mark(0, 0, 0, 0));
        is(1, x.mark(0, 0, 1, 0));
        is(0, x.undo());
        is(0, x.marks(3, 0));
        fails(STATE, x::undo);
        x.save(0);
        x.errorPosition();
        x.runScript(1, 40003);
        x.simulate(1, 9);
        x.bestPen(0);
        x.greatestMargin();
        x.bestDecision(0);
        fails(STATE, x::undo);
    }

    private static void find() {
        CrossedSheet x = loaded("S94m00a02m10b02m30a02m40b02m50c02m01-02m11-02m12z02m13z02g1");
        isWord("ab", x, 0, 0);
        isWord("abc", x, 0, 1);
        isWord("-z", x, 0, 2);
        is(0, x.find(0, 1, 0));
        is(0, x.find(0, 2, 1));
        is(1, x.find(0, 3, 102));
        is(NONE, x.find(0, 4, 10200));
        is(2, x.find(0, 1, 26));
        is(2, x.find(0, 2, 2625));
        is(3, x.find(0, 1, 25));
        is(NONE, x.find(0, 1, 1));
        is(NONE, x.find(1, 1, 0));
        is(NONE, x.find(0, 8, 2626262626262626L));
        is(NONE, x.find(0, 8, 0));
        fails(BOUNDS, () -> x.find(2, 9, -1));
        fails(BOUNDS, () -> x.find(-1, 1, 0));
        fails(ARGUMENT, () -> x.find(0, 0, 0));
        fails(ARGUMENT, () -> x.find(0, 9, 0));
        fails(ARGUMENT, () -> x.find(0, 1, -1));
        fails(ARGUMENT, () -> x.find(0, 1, 27));
        fails(ARGUMENT, () -> x.find(0, 1, 100));
        fails(ARGUMENT, () -> x.find(0, 2, 2700));
        fails(ARGUMENT, () -> x.find(0, 8, 10000000000000000L));
        fails(ARGUMENT, () -> x.find(0, 8, Long.MAX_VALUE));
        fails(ARGUMENT, () -> x.find(0, 8, Long.MIN_VALUE));
        findLong();
    }

    private static void findLong() {
        CrossedSheet x = loaded("S91m00a02m10b02m20c02m30d02m40e02m50f02m60g02m70h02m80i02");
        is(0, x.find(0, 8, 1020304050607L));
        is(NONE, x.find(0, 8, 1020304050608L));
    }

    private static void shared() {
        CrossedSheet x = loaded("S66g1m00a02m20a02m40b02m01c02m11d02m03c36m04d36m51a36m55e36m53a36");
        is(4, x.letter(0, 3));
        is(4, x.letter(1, 3));
        is(3, x.shared());
        x.erase(0, 4, 0);
        is(2, x.shared());
        x.erase(5, 1, 0);
        is(2, x.shared());
        x.erase(5, 3, 0);
        is(0, x.shared());
        is(0, new CrossedSheet().shared());
    }

    private static void count() {
        CrossedSheet x = loaded("S44m00a02m10-02m20-02m01a02m02b02m22-02m33a36");
        is(2, x.count(0, 0));
        is(1, x.count(0, 1));
        is(2, x.count(0, 26));
        is(0, x.count(0, 25));
        is(1, x.count(1, 0));
        is(0, x.count(1, 26));
        fails(BOUNDS, () -> x.count(2, 27));
        fails(BOUNDS, () -> x.count(-1, 0));
        fails(ARGUMENT, () -> x.count(0, 27));
        fails(ARGUMENT, () -> x.count(0, -1));
    }

    private static void bestPen() {
        CrossedSheet x = new CrossedSheet();
        is(0, x.bestPen(0));
        type(x, "S31m00a15m10b15m20c36");
        x.load();
        is(2, x.about(3));
        // The marks with the distance 7 from the letter 1 need one below 5 from the letter 0: 3 + |5 - 4|.
        is(4, x.bestPen(0));
        isLetter(x, 0, 0, 2, 0);
        is(2, x.about(3));
        fails(BOUNDS, () -> x.bestPen(2));
        fails(BOUNDS, () -> x.bestPen(-1));
        CrossedSheet always = loaded("S11m00a02m00a02");
        is(0, always.bestPen(0));
        is(0, always.bestPen(1));
        CrossedSheet last = loaded("S11v9m00a36p0381");
        is(0, last.bestPen(0));
        // Ten farther than the letter 0, which is where the mark is: 3 * 3 + 8 is the first.
        CrossedSheet near = loaded("S11v9m00a38p0381");
        is(0, near.bestPen(1));
        CrossedSheet later = loaded("S21v9m00a08p0081m10b08");
        is(10, later.bestPen(1));
        // Seven from the letter 0, so that only the farthest pen is more than nine farther.
        CrossedSheet farthest = loaded("S11p0070m00a00");
        farthest.setMargin(9);
        is(38, farthest.bestPen(1));
        isLetter(farthest, 1, 3, 6, 1);
        CrossedSheet allDoubtful = loaded("S99");
        for (int mark = 0; mark < 162; mark++) {
            allDoubtful.write(mark / 2 % 9, mark / 18, 0, 1, 5);
        }
        is(162, allDoubtful.about(3));
        is(0, allDoubtful.bestPen(0));
    }

    private static void greatestMargin() {
        CrossedSheet x = new CrossedSheet();
        is(9, x.greatestMargin());
        x.write(0, 0, 0, 0, 2);
        is(9, x.greatestMargin());
        x.write(1, 0, 0, 1, 4);
        is(2, x.greatestMargin());
        is(2, x.about(5));
        x.write(2, 0, 0, 1, 5);
        is(0, x.greatestMargin());
        x.write(3, 0, 0, 0, 0);
        x.write(3, 0, 0, 0, 0);
        is(NONE, x.greatestMargin());
        x.decide(3, 0, 1, 0);
        is(0, x.greatestMargin());
    }

    private static void bestDecision() {
        CrossedSheet x = new CrossedSheet();
        is(NONE, x.bestDecision(0));
        x.write(4, 4, 0, 0, 2);
        is(440, x.bestDecision(0));
        x.write(5, 0, 0, 1, 5);
        is(500, x.bestDecision(1));
        x.write(4, 5, 0, 1, 5);
        is(450, x.bestDecision(1));
        x.write(5, 5, 0, 0, 0);
        x.write(5, 5, 0, 0, 0);
        is(550, x.bestDecision(0));
        is(4, x.about(3));
        x.decide(5, 5, 0, 1);
        is(450, x.bestDecision(0));
        x.decide(4, 5, 0, 1);
        x.decide(5, 0, 0, 1);
        x.decide(4, 4, 0, 1);
        is(551, x.bestDecision(0));
        is(NONE, x.bestDecision(1));
        x.decide(5, 5, 1, 0);
        is(NONE, x.bestDecision(0));
        is(0, loaded("S22m00a15m11b15").bestDecision(0));
        fails(BOUNDS, () -> x.bestDecision(2));
        fails(BOUNDS, () -> x.bestDecision(-1));
    }

    private static void wordsWith() {
        CrossedSheet x = loaded(CUT);
        is(3, x.wordsWith(0, 1));
        is(2, x.wordsWith(0, 2));
        is(1, x.wordsWith(0, 3));
        is(0, x.wordsWith(1, 3));
        is(2, x.about(6));
        fails(BOUNDS, () -> x.wordsWith(2, 0));
        fails(BOUNDS, () -> x.wordsWith(-1, 1));
        fails(ARGUMENT, () -> x.wordsWith(0, 0));
        fails(ARGUMENT, () -> x.wordsWith(0, 4));
    }

    private static final String SCRIPTED = "S42m00a02m00b36m10c15m30d02m31e36";

    /** Whether each single command succeeds. */
    private static void succeed(boolean due, int... commands) {
        CrossedSheet x = loaded(SCRIPTED);
        for (int command : commands) {
            int got = x.runScript(1, command);
            if (got != (due ? NONE : 0)) {
                System.out.println("the command " + command);
            }
            is(due ? NONE : 0, got);
        }
        isAbout(x, 4, 2, 5, 1, 0, 2, 2, 1, 2, 2);
        fails(STATE, x::undo);
    }

    private static void runScript() {
        succeed(true, 10000, 10011, 10012, 11002, 13100);
        succeed(false, 10020, 10003, 11010, 12000, 14000, 10200, 10009);
        succeed(true, 20000, 20010, 21000, 23100);
        succeed(false, 20001, 20020, 21010, 22000, 24000, 20200);
        succeed(true, 30000, 31381, 30380);
        succeed(false, 32000, 30400, 30090, 30002);
        succeed(true, 40000, 40009, 50000);
        succeed(false, 40010, 40100, 41000, 50001, 50010, 50100, 51000);
        succeed(true, 60000, 60002, 61002, 61001);
        succeed(false, 60003, 61003, 62000, 60100, 60010);
        succeed(true, 70001, 70002, 70010);
        succeed(false, 70000, 70101, 71001);
        succeed(true, 80001, 80101, 81001, 81101);
        succeed(false, 80000, 80002, 80011, 80200, 80201, 82001, 80901);
        succeed(true, 90000, 90011, 91002, 93000, 93101);
        succeed(false, 90001, 90002, 91000, 91001, 92002, 90021, 90003, 94000, 90200, 90009);
        succeed(false, 0, 9999, 1);
        scripts();
    }

    private static void scripts() {
        CrossedSheet x = loaded(SCRIPTED);
        is(NONE, x.runScript(2, 11000_70000L));
        is(1, x.runScript(2, 40009_70000L));
        is(NONE, x.runScript(2, 40000_70000L));
        is(2, x.runScript(3, 11001_91001_91000L));
        is(NONE, x.runScript(3, 20000_90001_20000L));
        is(2, x.runScript(3, 20000_20000_20000L));
        is(1, x.runScript(2, 10000_10010L));
        is(NONE, x.runScript(3, 10000_10002_10010L));
        is(NONE, x.runScript(3, 50000_91000_91011L));
        is(2, x.runScript(3, 50000_50000_93000L));
        is(NONE, x.runScript(3, 50000_50000_93100L));
        is(NONE, x.runScript(2, 31151_91001L));
        is(0, x.runScript(3, 50000_50000L));
        is(0, x.runScript(1, 0));
        is(5, x.about(2));
        fails(ARGUMENT, () -> x.runScript(0, 0));
        fails(ARGUMENT, () -> x.runScript(4, 50000));
        fails(ARGUMENT, () -> x.runScript(1, -1));
        fails(ARGUMENT, () -> x.runScript(1, 100000));
        fails(ARGUMENT, () -> x.runScript(2, 10000000000L));
        fails(ARGUMENT, () -> x.runScript(3, 1000000000000000L));
        fails(ARGUMENT, () -> x.runScript(3, Long.MIN_VALUE));
        CrossedSheet nine = loaded("S99m88a02");
        is(NONE, nine.runScript(2, 98800_28800L));
        is(0, nine.runScript(1, 99000));
        is(0, nine.runScript(1, 90900));
    }

    private static void simulate() {
        CrossedSheet x = loaded("S11m00a02m00b36");
        // After two rounds only the marks of these rounds are left, in one cell.
        long first = 5 * 6364136223846793005L + 1442695040888963407L;
        long second = first * 6364136223846793005L + 1442695040888963407L;
        CrossedSheet y = loaded("S11");
        writeDrawn(y, first);
        writeDrawn(y, second);
        is(1000 * (y.letter(0, 3) + y.letter(1, 3)) + y.about(3), x.simulate(5, 2));
        is(2, x.about(2));
        is(1, x.mark(0, 0, 1, 0));
        // The mark that stays is the mark 1, with its decision.
        x.decide(0, 0, 1, 0);
        x.setMargin(9);
        is(2000, x.simulate(Long.MIN_VALUE, 1));
        x.decide(0, 0, 1, 2);
        x.decide(0, 0, 0, 1);
        CrossedSheet z = loaded("S11v9m00b36");
        writeDrawn(z, Long.MIN_VALUE * 6364136223846793005L + 1442695040888963407L);
        is(1000 * (z.letter(0, 3) + z.letter(1, 3)) + z.about(3), x.simulate(Long.MIN_VALUE, 1));
        fails(ARGUMENT, () -> x.simulate(0, 0));
        fails(ARGUMENT, () -> x.simulate(0, 100));
        fails(ARGUMENT, () -> x.simulate(0, -1));
        drawnSheets();
    }

    private static void writeDrawn(CrossedSheet sheet, long drawn) {
        int r = (int) (drawn >>> 33);
        int x = r % sheet.about(0);
        int y = r / 16 % sheet.about(1);
        if (sheet.marks(x, y) == 2) {
            sheet.erase(x, y, 0);
        }
        sheet.write(x, y, r / 256 % 27, r / 8192 % 4, r / 65536 % 9);
    }

    private static void drawnSheets() {
        for (long seed = -3; seed < 4; seed++) {
            CrossedSheet x = loaded("S57");
            CrossedSheet y = loaded("S57");
            long drawn = seed;
            for (int round = 0; round < 99; round++) {
                drawn = drawn * 6364136223846793005L + 1442695040888963407L;
                writeDrawn(y, drawn);
            }
            is(1000 * (y.letter(0, 3) + y.letter(1, 3)) + y.about(3), x.simulate(seed, 99));
            is(0, x.about(2));
        }
    }

    private static void save() {
        CrossedSheet x = new CrossedSheet();
        is(0, x.save(0));
        x.write(1, 1, 1, 0, 2);
        is(1, x.save(1));
        is(0, x.undo());
        is(1, x.restore(1));
        is(0, x.restore(0));
        x.write(2, 2, 2, 0, 2);
        x.write(2, 3, 2, 0, 2);
        is(2, x.save(0));
        is(1, x.undo());
        is(2, x.restore(0));
        fails(BOUNDS, () -> x.save(2));
        fails(BOUNDS, () -> x.save(-1));
    }

    private static void restore() {
        CrossedSheet x = loaded("S42m00a02m00b36m10c15p0121v3g1");
        fails(STATE, () -> x.restore(0));
        x.decide(1, 0, 0, 1);
        is(3, x.save(0));
        fails(STATE, () -> x.restore(1));
        x.clearText();
        x.append('?');
        x.turn();
        x.setMargin(0);
        x.setGap(3);
        x.setLetter(1, 0, 0, 0);
        x.erase(1, 0, 0);
        is(3, x.restore(0));
        isAbout(x, 4, 2, 3, 0, 1, 3, 1, 1, 1, 2);
        isLetter(x, 0, 1, 2, 1);
        isLetter(x, 1, 3, 6, 1);
        is(1, x.mark(1, 0, 0, 3));
        fails(STATE, x::undo);
        is(1, x.clearText());
        x.erase(1, 0, 0);
        is(3, x.restore(0));
        fails(STATE, x::undo);
        fails(BOUNDS, () -> x.restore(2));
        fails(BOUNDS, () -> x.restore(-1));
    }

    private static final Runnable[] PROMISES = {PromiseTest::newObject, PromiseTest::append, PromiseTest::clearText,
        PromiseTest::errorPosition, PromiseTest::load, PromiseTest::about, PromiseTest::letter, PromiseTest::marks,
        PromiseTest::mark, PromiseTest::wordLength, PromiseTest::sign, PromiseTest::wordAt, PromiseTest::write,
        PromiseTest::erase, PromiseTest::decide, PromiseTest::setLetter, PromiseTest::setMargin,
        PromiseTest::setGap, PromiseTest::turn, PromiseTest::undo, PromiseTest::find, PromiseTest::shared,
        PromiseTest::count, PromiseTest::bestPen, PromiseTest::greatestMargin, PromiseTest::bestDecision,
        PromiseTest::wordsWith, PromiseTest::runScript, PromiseTest::simulate, PromiseTest::save,
        PromiseTest::restore};

    public static void main(String[] args) {
        for (Runnable test : PROMISES) {
            promise++;
            try {
                test.run();
            } catch (RuntimeException e) {
                wrong++;
                System.out.println("promise " + promise + ": " + e);
                e.printStackTrace(System.out);
            }
        }
        System.out.println(promise + " promises, " + checks + " checks, " + wrong + " wrong");
        if (wrong != 0 || promise != 31) {
            System.exit(1);
        }
    }
}
