import java.util.function.Supplier;

/** The checks of the tests of edges, each of them told by the sentence of the document that it tests. */
final class Checks {
    static final int NONE = -9;
    static final Class<?> BOUNDS = IndexOutOfBoundsException.class;
    static final Class<?> ARGUMENT = IllegalArgumentException.class;
    static final Class<?> STATE = IllegalStateException.class;

    private static String section = "";
    private static String sentence = "";
    private static int ofSentence = 1;
    private static int sentences = 0;
    private static int checks = 0;
    private static int wrong = 0;

    private Checks() {
    }

    /** A call on an object. */
    interface Call {
        long on(CrossedSheet x);
    }

    /** Begins the test of a sentence. */
    static void says(String inSection, String words) {
        endSentence();
        section = inSection;
        sentence = words;
        ofSentence = 0;
        sentences++;
        if (!Document.quote(inSection, words)) {
            tell("the document does not say this");
        }
    }

    private static void endSentence() {
        if (ofSentence == 0) {
            tell("no check of this sentence");
        }
    }

    static void tell(String what) {
        wrong++;
        StringBuilder place = new StringBuilder();
        for (StackTraceElement at : new Throwable().getStackTrace()) {
            if (at.getClassName().endsWith("Edges")) {
                place.append(' ').append(at.getFileName()).append(':').append(at.getLineNumber());
            }
        }
        System.out.println(section + ", \"" + sentence + "\":" + place + ": " + what);
    }

    /** Ends all tests; returns whether all was as due. */
    static boolean end() {
        endSentence();
        for (String rest : Document.unquoted()) {
            wrong++;
            System.out.println("no test of what the document says in " + rest);
        }
        System.out.println(sentences + " sentences, " + checks + " checks, " + wrong + " wrong");
        return wrong == 0;
    }

    static void isTrue(boolean holds) {
        is("true", "" + holds);
    }

    static void is(long due, long got) {
        is("" + due, "" + got);
    }

    static void is(String due, String got) {
        checks++;
        ofSentence++;
        if (!due.equals(got)) {
            tell("answered " + got + ", due is " + due);
        }
    }

    /** The answer of a call, or the name of the exception that it throws. */
    static String outcome(CrossedSheet x, Call call) {
        try {
            return "" + call.on(x);
        } catch (RuntimeException e) {
            return e.getClass().getName();
        }
    }

    /** The call throws this; whether it changes something is not looked at. */
    static void fails(Class<?> due, CrossedSheet x, Call call) {
        is(due.getName(), outcome(x, call));
    }

    /** The call throws this on an object in use, and changes nothing. */
    static void refused(Class<?> due, Call call) {
        refusedIn(Situations::used, due, call);
    }

    static void refusedIn(Supplier<CrossedSheet> situation, Class<?> due, Call call) {
        for (Views.View view : Views.ALL) {
            CrossedSheet x = situation.get();
            fails(due, x, call);
            is(view.of(situation.get()), view.of(x));
        }
    }

    /** The call answers on an object in use, and changes nothing. */
    static void changesNothing(Call call) {
        changesNothingIn(Situations::used, call);
    }

    static void changesNothingIn(Supplier<CrossedSheet> situation, Call call) {
        for (Views.View view : Views.ALL) {
            CrossedSheet x = situation.get();
            call.on(x);
            is(view.of(situation.get()), view.of(x));
        }
    }

    /** The first values outside the range on both sides, and such as become others if bits are lost. */
    static int[] outside(int least, int most) {
        return new int[] {least - 1, most + 1, Integer.MIN_VALUE, Integer.MAX_VALUE, least - 256, most + 256,
            Integer.MIN_VALUE + most, 65536 + least, 954437177, -954437176};
    }

    static void type(CrossedSheet x, String text) {
        for (int i = 0; i < text.length(); i++) {
            x.append(text.charAt(i));
        }
    }

    static CrossedSheet typed(String text) {
        CrossedSheet x = new CrossedSheet();
        type(x, text);
        return x;
    }

    static CrossedSheet loaded(String text) {
        CrossedSheet x = typed(text);
        x.load();
        return x;
    }

    static char shown(int sign) {
        return sign == 26 ? '-' : (char) ('a' + sign);
    }

    static int signOf(char shown) {
        return shown == '-' ? 26 : shown - 'a';
    }

    /** The words of a letter, with blanks between them. */
    static String words(CrossedSheet x, int k) {
        StringBuilder words = new StringBuilder();
        int count = x.letter(k, 3);
        for (int n = 0; n < count; n++) {
            words.append(n > 0 ? " " : "");
            int length = x.wordLength(k, n);
            for (int j = 0; j < length; j++) {
                words.append(shown(x.sign(k, n, j)));
            }
        }
        return words.toString();
    }

    /** How many states are remembered; all of them are taken back by this. */
    static int remembered(CrossedSheet x) {
        int states = 0;
        while (states < 600 && !outcome(x, CrossedSheet::undo).startsWith("java")) {
            states++;
        }
        return states;
    }

    /** The pen of a letter, as 100 * ink + 10 * slant + way. */
    static int pen(CrossedSheet x, int k) {
        return 100 * x.letter(k, 0) + 10 * x.letter(k, 1) + x.letter(k, 2);
    }
}
