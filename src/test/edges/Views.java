/** Ways to look at an object: each of them may change it, so that an object is looked at but once. */
final class Views {
    static final View[] ALL = {Views::everything, Views::remembered, x -> saved(x, 0), x -> saved(x, 1),
        Views::lengthOfText, Views::text};

    private Views() {
    }

    interface View {
        String of(CrossedSheet x);
    }

    /** All that can be asked of a small sheet, in some 130 calls. */
    static String everything(CrossedSheet x) {
        StringBuilder seen = new StringBuilder(state(x));
        for (int what = 3; what < 10; what++) {
            seen.append(" about ").append(x.about(what));
        }
        for (int k = 0; k < 2; k++) {
            seen.append(" words ").append(Checks.words(x, k)).append(x.letter(k, 4));
        }
        for (int cx = 0; cx < x.about(0); cx++) {
            for (int cy = 0; cy < x.about(1); cy++) {
                seen.append(' ').append(x.wordAt(0, cx, cy)).append(' ').append(x.wordAt(1, cx, cy));
            }
        }
        return seen.toString();
    }

    /** The state alone, in few calls. */
    static String state(CrossedSheet x) {
        StringBuilder seen = new StringBuilder();
        int width = x.about(0);
        int height = x.about(1);
        seen.append(width).append('x').append(height).append(" v").append(x.about(5)).append(" g")
            .append(x.about(6)).append(" p").append(Checks.pen(x, 0)).append(" p").append(Checks.pen(x, 1));
        for (int cx = 0; cx < width; cx++) {
            for (int cy = 0; cy < height; cy++) {
                int marks = x.marks(cx, cy);
                for (int i = 0; i < marks; i++) {
                    seen.append(" m").append(cx).append(cy);
                    for (int what = 0; what < 4; what++) {
                        seen.append(',').append(x.mark(cx, cy, i, what));
                    }
                }
            }
        }
        return seen.toString();
    }

    private static String remembered(CrossedSheet x) {
        StringBuilder seen = new StringBuilder();
        for (int i = 0; i < 15; i++) {
            String answer = Checks.outcome(x, CrossedSheet::undo);
            seen.append(answer).append(": ").append(state(x)).append('\n');
            if (answer.startsWith("java")) {
                break;
            }
        }
        return seen.toString();
    }

    private static String saved(CrossedSheet x, int slot) {
        String answer = Checks.outcome(x, y -> y.restore(slot));
        return answer + ": " + everything(x);
    }

    private static String lengthOfText(CrossedSheet x) {
        return x.clearText() + ", " + x.clearText();
    }

    private static String text(CrossedSheet x) {
        String answer = x.errorPosition() + " " + Checks.outcome(x, CrossedSheet::load);
        return answer + ": " + everything(x);
    }
}
