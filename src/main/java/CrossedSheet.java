/**
 * A sheet that was written on twice: the marks of two letters cross each other, one written along
 * the rows and one along the columns, or both ways as told.
 */
public final class CrossedSheet {
    public static final int NONE = -9;

    private static final int TEXT_LIMIT = 120;
    private static final int LONGEST_SIDE = 9;
    private static final int MOST_CELLS = LONGEST_SIDE * LONGEST_SIDE;
    private static final int MARKS_OF_CELL = 2;
    private static final int MOST_MARKS = MARKS_OF_CELL * MOST_CELLS;
    private static final int LETTERS = 2;
    private static final int HYPHEN = 26;
    private static final int GREATEST_INK = 3;
    private static final int GREATEST_SLANT = 8;
    private static final int GREATEST_MARGIN = 9;
    private static final int GREATEST_GAP = 3;
    private static final int UNDECIDE = 2;
    private static final int REMEMBERED_STATES = 14;
    private static final int SAVE_SLOTS = 2;
    private static final int LONGEST_SEARCH = 8;
    private static final int LONGEST_SCRIPT = 3;

    private final Numbers text;
    private int textLength;
    private final TextReader textReader;
    private final Sheet present;
    /** What would be: texts, scripts, simulations and pens are tried on this one. */
    private final Sheet trial;
    private final Sheet beforeTurn;
    private final History history;
    private final Shelf slots;
    private final Reading reading;
    private final Reading otherReading;
    private final Numbers wanted;
    private final Numbers commands;

    public CrossedSheet() {
        text = new Numbers(TEXT_LIMIT);
        textLength = 0;
        textReader = new TextReader();
        present = new Sheet();
        trial = new Sheet();
        beforeTurn = new Sheet();
        history = new History();
        slots = new Shelf(SAVE_SLOTS);
        reading = new Reading();
        otherReading = new Reading();
        wanted = new Numbers(LONGEST_SEARCH);
        commands = new Numbers(LONGEST_SCRIPT);
    }

    // ---- text

    public int append(int c) throws IllegalArgumentException, IllegalStateException {
        checkArgument(c, 0, 255);
        if (textLength >= TEXT_LIMIT) {
            throw new IllegalStateException("the text is full");
        }
        text.put(textLength, c);
        textLength++;
        return textLength;
    }

    public int clearText() {
        int previous = textLength;
        textLength = 0;
        return previous;
    }

    public int errorPosition() {
        return readText();
    }

    public int load() throws IllegalStateException {
        if (readText() != NONE) {
            throw new IllegalStateException("the text is not a sheet");
        }
        present.takeFrom(trial);
        history.forget();
        slots.clear();
        return present.countMarks();
    }

    // ---- what there is

    public int about(int what) throws IllegalArgumentException {
        checkArgument(what, 0, 9);
        switch (what) {
            case 0: return present.width;
            case 1: return present.height;
            case 2: return present.countMarks();
            case 3: return present.countDoubtful();
            case 4: return present.countDecided();
            case 5: return present.margin;
            case 6: return present.gap;
            case 7: return present.countFullCells();
            default:
                readPresent(what - 8);
                return reading.markCount;
        }
    }

    public int letter(int k, int what) throws IndexOutOfBoundsException, IllegalArgumentException {
        checkLetter(k);
        checkArgument(what, 0, 4);
        switch (what) {
            case 0: return present.letterInks.at(k);
            case 1: return present.letterSlants.at(k);
            case 2: return present.letterWays.at(k);
            case 3: return readPresent(k);
            default:
                readPresent(k);
                return reading.longest();
        }
    }

    public int marks(int x, int y) throws IndexOutOfBoundsException {
        checkCell(x, y);
        return present.marksIn(x, y);
    }

    public int mark(int x, int y, int i, int what) throws IndexOutOfBoundsException, IllegalArgumentException {
        checkMark(x, y, i);
        checkArgument(what, 0, 7);
        int place = placeOf(x, y, i);
        switch (what) {
            case 0: return present.signs.at(place);
            case 1: return present.inks.at(place);
            case 2: return present.slants.at(place);
            case 3: return present.decisions.at(place);
            case 4: return present.ownerOf(x, y, i);
            case 5: return present.ruleOf(x, y, i);
            case 6: return present.distance(place, 0);
            default: return present.distance(place, 1);
        }
    }

    public int wordLength(int k, int n) throws IndexOutOfBoundsException {
        checkLetter(k);
        readPresent(k);
        checkWord(n);
        return reading.lengthOf(n);
    }

    public int sign(int k, int n, int j) throws IndexOutOfBoundsException, IllegalArgumentException {
        checkLetter(k);
        readPresent(k);
        checkWord(n);
        if (j < 0) {
            throw new IllegalArgumentException("a negative number of a sign");
        }
        return reading.signAt(n, j);
    }

    public int wordAt(int k, int x, int y) throws IndexOutOfBoundsException {
        checkLetter(k);
        checkCell(x, y);
        readPresent(k);
        return reading.wordsOfCells.at(cellOf(x, y));
    }

    // ---- actions

    public int write(int x, int y, int sign, int ink, int slant)
            throws IndexOutOfBoundsException, IllegalArgumentException, IllegalStateException {
        checkCell(x, y);
        checkArgument(sign, 0, HYPHEN);
        checkArgument(ink, 0, GREATEST_INK);
        checkArgument(slant, 0, GREATEST_SLANT);
        if (!present.hasRoom(x, y)) {
            throw new IllegalStateException("the cell has two marks");
        }
        history.remember(present);
        int number = present.marksIn(x, y);
        present.addMark(x, y, sign, ink, slant);
        return number;
    }

    public int erase(int x, int y, int i) throws IndexOutOfBoundsException {
        checkMark(x, y, i);
        history.remember(present);
        int sign = present.signs.at(placeOf(x, y, i));
        present.removeMark(x, y, i);
        return sign;
    }

    public int decide(int x, int y, int i, int k)
            throws IndexOutOfBoundsException, IllegalArgumentException, IllegalStateException {
        checkMark(x, y, i);
        checkArgument(k, 0, UNDECIDE);
        if (present.otherHasDecision(x, y, i, k)) {
            throw new IllegalStateException("the other mark of the cell is decided for this letter");
        }
        history.remember(present);
        present.putDecision(x, y, i, k);
        return present.countDoubtful();
    }

    public int setLetter(int k, int ink, int slant, int way)
            throws IndexOutOfBoundsException, IllegalArgumentException {
        checkLetter(k);
        checkArgument(ink, 0, GREATEST_INK);
        checkArgument(slant, 0, GREATEST_SLANT);
        checkArgument(way, 0, 1);
        history.remember(present);
        present.putLetter(k, ink, slant, way);
        return present.countDoubtful();
    }

    public int setMargin(int margin) throws IllegalArgumentException {
        checkArgument(margin, 0, GREATEST_MARGIN);
        history.remember(present);
        int previous = present.margin;
        present.margin = margin;
        return previous;
    }

    public int setGap(int gap) throws IllegalArgumentException {
        checkArgument(gap, 1, GREATEST_GAP);
        history.remember(present);
        int previous = present.gap;
        present.gap = gap;
        return previous;
    }

    public int turn() {
        history.remember(present);
        present.turnByQuarter(beforeTurn);
        return readPresent(0) + readPresent(1);
    }

    public int undo() throws IllegalStateException {
        if (history.size == 0) {
            throw new IllegalStateException("no state is remembered");
        }
        history.takeBack(present);
        return history.size;
    }

    // ---- what would be

    public int find(int k, int n, long signs) throws IndexOutOfBoundsException, IllegalArgumentException {
        checkLetter(k);
        checkArgument(n, 1, LONGEST_SEARCH);
        if (!splitSigns(n, signs)) {
            throw new IllegalArgumentException("these are not signs");
        }
        readPresent(k);
        for (int word = 0; word < reading.wordCount; word++) {
            if (reading.beginsWith(word, wanted, n)) {
                return word;
            }
        }
        return NONE;
    }

    public int shared() {
        readPresent(0);
        otherReading.readLetter(present, 1, present.gap);
        int alike = 0;
        for (int word = 0; word < reading.wordCount; word++) {
            if (otherReading.hasWord(reading, word)) {
                alike++;
            }
        }
        return alike;
    }

    public int count(int k, int sign) throws IndexOutOfBoundsException, IllegalArgumentException {
        checkLetter(k);
        checkArgument(sign, 0, HYPHEN);
        readPresent(k);
        return reading.countSign(sign);
    }

    public int bestPen(int k) throws IndexOutOfBoundsException {
        checkLetter(k);
        trial.takeFrom(present);
        int best = NONE;
        int fewest = MOST_MARKS + 1;
        for (int ink = 0; ink <= GREATEST_INK; ink++) {
            for (int slant = 0; slant <= GREATEST_SLANT; slant++) {
                trial.putPen(k, ink, slant);
                int doubtful = trial.countDoubtful();
                if (doubtful < fewest) {
                    fewest = doubtful;
                    best = 10 * ink + slant;
                }
            }
        }
        return best;
    }

    public int greatestMargin() {
        trial.takeFrom(present);
        for (int margin = GREATEST_MARGIN; margin >= 0; margin--) {
            trial.margin = margin;
            if (trial.countDoubtful() == 0) {
                return margin;
            }
        }
        return NONE;
    }

    public int bestDecision(int k) throws IndexOutOfBoundsException {
        checkLetter(k);
        int best = NONE;
        int mostCleared = -1;
        for (int x = 0; x < present.width; x++) {
            for (int y = 0; y < present.height; y++) {
                // A decision clears all doubts of its own cell, and none elsewhere.
                int cleared = present.ownerOfFirst(x, y) == NONE ? present.marksIn(x, y) : 0;
                int i = present.firstToDecide(x, y, k);
                if (i != NONE && cleared > mostCleared) {
                    mostCleared = cleared;
                    best = 100 * x + 10 * y + i;
                }
            }
        }
        return best;
    }

    public int wordsWith(int k, int gap) throws IndexOutOfBoundsException, IllegalArgumentException {
        checkLetter(k);
        checkArgument(gap, 1, GREATEST_GAP);
        return reading.readLetter(present, k, gap);
    }

    // ---- scripts, simulations

    public int runScript(int n, long script) throws IllegalArgumentException {
        checkArgument(n, 1, LONGEST_SCRIPT);
        if (!splitScript(n, script)) {
            throw new IllegalArgumentException("the script is negative or too long");
        }
        trial.takeFrom(present);
        for (int i = 0; i < n; i++) {
            if (!succeeds(commands.at(i))) {
                return i;
            }
        }
        return NONE;
    }

    public int simulate(long seed, int m) throws IllegalArgumentException {
        checkArgument(m, 1, 99);
        trial.takeFrom(present);
        long state = seed;
        for (int round = 0; round < m; round++) {
            state = state * 6364136223846793005L + 1442695040888963407L;
            playRound((int) (state >>> 33));
        }
        int words = reading.readLetter(trial, 0, trial.gap) + reading.readLetter(trial, 1, trial.gap);
        return 1000 * words + trial.countDoubtful();
    }

    // ---- save slots

    public int save(int slot) throws IndexOutOfBoundsException {
        checkSlot(slot);
        slots.store(slot, present);
        return present.countMarks();
    }

    public int restore(int slot) throws IndexOutOfBoundsException, IllegalStateException {
        checkSlot(slot);
        if (!slots.holds(slot)) {
            throw new IllegalStateException("nothing has been saved in this slot");
        }
        slots.fetch(slot, present);
        history.forget();
        return present.countMarks();
    }

    // ---- what the calls have in common

    private static void checkArgument(int value, int least, int greatest) {
        if (value < least || value > greatest) {
            throw new IllegalArgumentException("an argument is out of its range");
        }
    }

    private static void checkLetter(int k) {
        if (!isLetter(k)) {
            throw new IndexOutOfBoundsException("no such letter");
        }
    }

    private static void checkSlot(int slot) {
        if (slot < 0 || slot >= SAVE_SLOTS) {
            throw new IndexOutOfBoundsException("no such save slot");
        }
    }

    private void checkCell(int x, int y) {
        if (!present.hasCell(x, y)) {
            throw new IndexOutOfBoundsException("no such cell");
        }
    }

    private void checkMark(int x, int y, int i) {
        if (!present.hasMark(x, y, i)) {
            throw new IndexOutOfBoundsException("no such cell or mark");
        }
    }

    /** Looks for the word in the letter that was read last. */
    private void checkWord(int n) {
        if (!reading.hasNumber(n)) {
            throw new IndexOutOfBoundsException("no such word");
        }
    }

    private static boolean isLetter(int k) {
        return k >= 0 && k < LETTERS;
    }

    private static int cellOf(int x, int y) {
        return LONGEST_SIDE * x + y;
    }

    private static int placeOf(int x, int y, int i) {
        return MARKS_OF_CELL * cellOf(x, y) + i;
    }

    private static int remainder(int value, int divisor) {
        return divisor > 0 ? value % divisor : 0;
    }

    /** Reads the text into the trial sheet; returns the error position. */
    private int readText() {
        textReader.begin(trial);
        for (int i = 0; i < textLength; i++) {
            int c = text.at(i);
            if (!textReader.allows(trial, c)) {
                return i;
            }
            textReader.take(trial, c);
        }
        return textReader.mayEnd() ? NONE : textLength;
    }

    /** Returns the number of words of the letter, as it is now. */
    private int readPresent(int k) {
        return reading.readLetter(present, k, present.gap);
    }

    /** Puts the signs of the number into the row of wanted signs; false if these are not n signs. */
    private boolean splitSigns(int n, long signs) {
        long rest = signs;
        boolean allSigns = true;
        for (int i = n - 1; i >= 0; i--) {
            int pair = (int) (rest % 100);
            wanted.put(i, pair);
            allSigns = allSigns && pair <= HYPHEN;
            rest /= 100;
        }
        return signs >= 0 && rest == 0 && allSigns;
    }

    /** Puts the groups of the number into the row of commands; false if these are not n groups. */
    private boolean splitScript(int n, long script) {
        long rest = script;
        for (int i = n - 1; i >= 0; i--) {
            commands.put(i, (int) (rest % 100_000));
            rest /= 100_000;
        }
        return script >= 0 && rest == 0;
    }

    /** Does a command of a script on the trial sheet. */
    private boolean succeeds(int group) {
        int a = group / 1000 % 10;
        int b = group / 100 % 10;
        int c = group / 10 % 10;
        int d = group % 10;
        int cd = 10 * c + d;
        switch (group / 10_000) {
            case 1: return tryDecide(a, b, c, d);
            case 2: return d == 0 && tryErase(a, b, c);
            case 3: return trySetLetter(a, b, c, d);
            case 4: return a == 0 && b == 0 && c == 0 && trySetMargin(d);
            case 5: return a == 0 && b == 0 && cd == 0 && tryTurn();
            case 6: return isLetter(a) && b == 0 && reading.readLetter(trial, a, trial.gap) >= cd;
            case 7: return a == 0 && b == 0 && trial.countDoubtful() <= cd;
            case 8: return isLetter(a) && reading.readLetter(trial, a, trial.gap) > b && reading.lengthOf(b) == cd;
            case 9: return trial.hasMark(a, b, c) && d <= UNDECIDE && trial.ownerOf(a, b, c) == letterOrNone(d);
            default: return false;
        }
    }

    private boolean tryDecide(int x, int y, int i, int k) {
        if (!trial.hasMark(x, y, i) || k > UNDECIDE || trial.otherHasDecision(x, y, i, k)) {
            return false;
        }
        trial.putDecision(x, y, i, k);
        return true;
    }

    private boolean tryErase(int x, int y, int i) {
        if (!trial.hasMark(x, y, i)) {
            return false;
        }
        trial.removeMark(x, y, i);
        return true;
    }

    private boolean trySetLetter(int k, int ink, int slant, int way) {
        if (!isLetter(k) || ink > GREATEST_INK || slant > GREATEST_SLANT || way > 1) {
            return false;
        }
        trial.putLetter(k, ink, slant, way);
        return true;
    }

    private boolean trySetMargin(int margin) {
        trial.margin = margin;
        return true;
    }

    private boolean tryTurn() {
        trial.turnByQuarter(beforeTurn);
        return true;
    }

    /** For the numbers with which a letter or none is told: 0, 1 and 2. */
    private static int letterOrNone(int k) {
        return isLetter(k) ? k : NONE;
    }

    private void playRound(int r) {
        int x = remainder(r, trial.width);
        int y = remainder(r / 16, trial.height);
        if (!trial.hasRoom(x, y)) {
            trial.removeMark(x, y, 0);
        }
        trial.addMark(x, y, r / 256 % 27, r / 8192 % 4, r / 65536 % 9);
    }

    /** A row of numbers that looks at each index before it is used. */
    private static final class Numbers {
        private final int[] numbers;

        Numbers(int length) {
            numbers = new int[length > 0 ? length : 0];
        }

        int at(int i) {
            return i >= 0 && i < numbers.length ? numbers[i] : NONE;
        }

        void put(int i, int number) {
            if (i >= 0 && i < numbers.length) {
                numbers[i] = number;
            }
        }

        void fill(int number) {
            for (int i = 0; i < numbers.length; i++) {
                numbers[i] = number;
            }
        }

        void takeFrom(Numbers other) {
            if (other != null && other.numbers.length == numbers.length) {
                System.arraycopy(other.numbers, 0, numbers, 0, numbers.length);
            }
        }
    }

    /** A state: all but the text and the save slots. */
    private static final class Sheet {
        int width;
        int height;
        int margin;
        int gap;
        final Numbers letterInks = new Numbers(LETTERS);
        final Numbers letterSlants = new Numbers(LETTERS);
        final Numbers letterWays = new Numbers(LETTERS);
        final Numbers markCounts = new Numbers(MOST_CELLS);
        final Numbers signs = new Numbers(MOST_MARKS);
        final Numbers inks = new Numbers(MOST_MARKS);
        final Numbers slants = new Numbers(MOST_MARKS);
        final Numbers decisions = new Numbers(MOST_MARKS);

        Sheet() {
            makeNew();
        }

        void makeNew() {
            putSize(6, 6);
            margin = 2;
            gap = 2;
            putLetter(0, 0, 2, 0);
            putLetter(1, 3, 6, 1);
            markCounts.fill(0);
        }

        void takeFrom(Sheet other) {
            putSize(other.width, other.height);
            margin = other.margin;
            gap = other.gap;
            letterInks.takeFrom(other.letterInks);
            letterSlants.takeFrom(other.letterSlants);
            letterWays.takeFrom(other.letterWays);
            markCounts.takeFrom(other.markCounts);
            signs.takeFrom(other.signs);
            inks.takeFrom(other.inks);
            slants.takeFrom(other.slants);
            decisions.takeFrom(other.decisions);
        }

        void putSize(int newWidth, int newHeight) {
            width = newWidth;
            height = newHeight;
        }

        void putLetter(int k, int ink, int slant, int way) {
            letterInks.put(k, ink);
            letterSlants.put(k, slant);
            letterWays.put(k, way);
        }

        void putPen(int k, int ink, int slant) {
            letterInks.put(k, ink);
            letterSlants.put(k, slant);
        }

        boolean hasCell(int x, int y) {
            return x >= 0 && x < width && y >= 0 && y < height;
        }

        int marksIn(int x, int y) {
            return hasCell(x, y) ? markCounts.at(cellOf(x, y)) : 0;
        }

        boolean hasMark(int x, int y, int i) {
            return hasCell(x, y) && i >= 0 && i < markCounts.at(cellOf(x, y));
        }

        boolean hasRoom(int x, int y) {
            return hasCell(x, y) && markCounts.at(cellOf(x, y)) < MARKS_OF_CELL;
        }

        boolean columnHasRoom(int x) {
            for (int y = 0; y < height; y++) {
                if (hasRoom(x, y)) {
                    return true;
                }
            }
            return false;
        }

        boolean hasRoomAnywhere() {
            for (int x = 0; x < width; x++) {
                if (columnHasRoom(x)) {
                    return true;
                }
            }
            return false;
        }

        void addMark(int x, int y, int sign, int ink, int slant) {
            if (hasRoom(x, y)) {
                int number = marksIn(x, y);
                markCounts.put(cellOf(x, y), number + 1);
                putMark(placeOf(x, y, number), sign, ink, slant, NONE);
            }
        }

        private void putMark(int place, int sign, int ink, int slant, int decision) {
            signs.put(place, sign);
            inks.put(place, ink);
            slants.put(place, slant);
            decisions.put(place, decision);
        }

        void removeMark(int x, int y, int i) {
            if (hasMark(x, y, i)) {
                if (i == 0) {
                    int next = placeOf(x, y, 1);
                    putMark(placeOf(x, y, 0), signs.at(next), inks.at(next), slants.at(next), decisions.at(next));
                }
                markCounts.put(cellOf(x, y), marksIn(x, y) - 1);
            }
        }

        /** Never for k = 2: taking a decision back is always allowed. */
        boolean otherHasDecision(int x, int y, int i, int k) {
            return isLetter(k) && decisionOf(x, y, 1 - i) == k;
        }

        /** NONE if the mark is not decided, and also if there is no such mark. */
        private int decisionOf(int x, int y, int i) {
            return hasMark(x, y, i) ? decisions.at(placeOf(x, y, i)) : NONE;
        }

        void putDecision(int x, int y, int i, int k) {
            if (hasMark(x, y, i)) {
                decisions.put(placeOf(x, y, i), letterOrNone(k));
            }
        }

        /** The first mark of the cell that is not decided and can be decided for the letter. */
        int firstToDecide(int x, int y, int k) {
            for (int i = 0; i < marksIn(x, y); i++) {
                if (decisionOf(x, y, i) == NONE && !otherHasDecision(x, y, i, k)) {
                    return i;
                }
            }
            return NONE;
        }

        void turnByQuarter(Sheet before) {
            before.takeFrom(this);
            putSize(before.height, before.width);
            markCounts.fill(0);
            for (int x = 0; x < before.width; x++) {
                for (int y = 0; y < before.height; y++) {
                    turnCell(before, x, y);
                }
            }
            for (int k = 0; k < LETTERS; k++) {
                letterSlants.put(k, GREATEST_SLANT - letterSlants.at(k));
                letterWays.put(k, 1 - letterWays.at(k));
            }
        }

        private void turnCell(Sheet before, int x, int y) {
            int newX = before.height - 1 - y;
            int newY = x;
            for (int i = 0; i < before.marksIn(x, y); i++) {
                int from = placeOf(x, y, i);
                int slant = GREATEST_SLANT - before.slants.at(from);
                putMark(placeOf(newX, newY, i), before.signs.at(from), before.inks.at(from), slant,
                        before.decisions.at(from));
            }
            markCounts.put(cellOf(newX, newY), before.marksIn(x, y));
        }

        int distance(int place, int k) {
            return 3 * Math.abs(inks.at(place) - letterInks.at(k))
                    + Math.abs(slants.at(place) - letterSlants.at(k));
        }

        /** How much better the mark 0 fits the letter 0, and a mark 1 the letter 1, than the other way round. */
        private int leaningOf(int x, int y) {
            int first = placeOf(x, y, 0);
            int leaning = distance(first, 1) - distance(first, 0);
            if (hasMark(x, y, 1)) {
                int second = placeOf(x, y, 1);
                leaning += distance(second, 0) - distance(second, 1);
            }
            return leaning;
        }

        /**
         * The letter to which the mark 0 of the cell belongs. A mark 1 always belongs to the other
         * letter, and is doubtful just when the mark 0 is: so NONE tells that all marks are doubtful.
         */
        int ownerOfFirst(int x, int y) {
            if (!hasMark(x, y, 0)) {
                return NONE;
            }
            int decision = decisionOf(x, y, 0);
            if (decision != NONE) {
                return decision;
            }
            int otherDecision = decisionOf(x, y, 1);
            if (otherDecision != NONE) {
                return 1 - otherDecision;
            }
            int leaning = leaningOf(x, y);
            if (Math.abs(leaning) <= margin) {
                return NONE;
            }
            return leaning > 0 ? 0 : 1;
        }

        /** The letter to which the mark belongs; NONE if it is doubtful. */
        int ownerOf(int x, int y, int i) {
            int first = ownerOfFirst(x, y);
            return i == 0 || first == NONE ? first : 1 - first;
        }

        /** The number of the rule that tells where the mark belongs. */
        int ruleOf(int x, int y, int i) {
            if (decisionOf(x, y, i) != NONE) {
                return 1;
            }
            if (decisionOf(x, y, 1 - i) != NONE) {
                return 2;
            }
            if (ownerOfFirst(x, y) == NONE) {
                return 5;
            }
            return marksIn(x, y) == 1 ? 3 : 4;
        }

        int countMarks() {
            int found = 0;
            for (int x = 0; x < width; x++) {
                for (int y = 0; y < height; y++) {
                    found += marksIn(x, y);
                }
            }
            return found;
        }

        int countDoubtful() {
            int found = 0;
            for (int x = 0; x < width; x++) {
                for (int y = 0; y < height; y++) {
                    found += ownerOfFirst(x, y) == NONE ? marksIn(x, y) : 0;
                }
            }
            return found;
        }

        int countDecided() {
            int found = 0;
            for (int x = 0; x < width; x++) {
                for (int y = 0; y < height; y++) {
                    for (int i = 0; i < MARKS_OF_CELL; i++) {
                        found += decisionOf(x, y, i) != NONE ? 1 : 0;
                    }
                }
            }
            return found;
        }

        int countFullCells() {
            int found = 0;
            for (int x = 0; x < width; x++) {
                for (int y = 0; y < height; y++) {
                    found += hasRoom(x, y) ? 0 : 1;
                }
            }
            return found;
        }
    }

    /** The words of a letter, as it was read last. */
    private static final class Reading {
        int wordCount;
        int markCount;
        /** The word of each cell's mark of the letter, also of a hyphen that is left out. */
        final Numbers wordsOfCells = new Numbers(MOST_CELLS);
        private final Numbers signs = new Numbers(MOST_CELLS);
        private final Numbers starts = new Numbers(MOST_CELLS);
        private int signCount;
        private int lastLine;
        private int lastPosition;
        private int lastSign;

        /** Reads the letter of the sheet; returns the number of its words. */
        int readLetter(Sheet sheet, int k, int gap) {
            wordCount = 0;
            markCount = 0;
            signCount = 0;
            wordsOfCells.fill(NONE);
            boolean alongRows = sheet.letterWays.at(k) == 0;
            int lines = alongRows ? sheet.height : sheet.width;
            int lineLength = alongRows ? sheet.width : sheet.height;
            for (int line = 0; line < lines; line++) {
                for (int position = 0; position < lineLength; position++) {
                    int x = alongRows ? position : line;
                    int y = alongRows ? line : position;
                    int first = sheet.ownerOfFirst(x, y);
                    int i = first == k ? 0 : 1;
                    if (first != NONE && sheet.hasMark(x, y, i)) {
                        goTo(line, position, gap);
                        takeSign(sheet.signs.at(placeOf(x, y, i)));
                        wordsOfCells.put(cellOf(x, y), wordCount - 1);
                    }
                }
            }
            return wordCount;
        }

        /** Begins a new word, if the mark at this place does not go on with the last one. */
        private void goTo(int line, int position, int gap) {
            boolean first = wordCount == 0;
            boolean sameLine = !first && line == lastLine;
            boolean cut = !first && !sameLine && lastSign == HYPHEN;
            if (cut) {
                signCount--;
            } else if (!sameLine || position - lastPosition - 1 >= gap) {
                starts.put(wordCount, signCount);
                wordCount++;
            }
            lastLine = line;
            lastPosition = position;
        }

        private void takeSign(int sign) {
            signs.put(signCount, sign);
            signCount++;
            markCount++;
            lastSign = sign;
        }

        boolean hasNumber(int n) {
            return n >= 0 && n < wordCount;
        }

        int lengthOf(int n) {
            if (!hasNumber(n)) {
                return 0;
            }
            int end = n + 1 < wordCount ? starts.at(n + 1) : signCount;
            return end - starts.at(n);
        }

        int signAt(int n, int j) {
            return j >= 0 && j < lengthOf(n) ? signs.at(starts.at(n) + j) : NONE;
        }

        int longest() {
            int length = 0;
            for (int n = 0; n < wordCount; n++) {
                length = Math.max(length, lengthOf(n));
            }
            return length;
        }

        int countSign(int sign) {
            int found = 0;
            for (int i = 0; i < signCount; i++) {
                found += signs.at(i) == sign ? 1 : 0;
            }
            return found;
        }

        boolean beginsWith(int n, Numbers beginning, int length) {
            for (int j = 0; j < length; j++) {
                if (signAt(n, j) != beginning.at(j)) {
                    return false;
                }
            }
            return true;
        }

        boolean hasWord(Reading other, int n) {
            for (int own = 0; own < wordCount; own++) {
                if (isSameWord(own, other, n)) {
                    return true;
                }
            }
            return false;
        }

        private boolean isSameWord(int own, Reading other, int n) {
            if (lengthOf(own) != other.lengthOf(n)) {
                return false;
            }
            for (int j = 0; j < lengthOf(own); j++) {
                if (signAt(own, j) != other.signAt(n, j)) {
                    return false;
                }
            }
            return true;
        }
    }

    /** Copies of sheets, made once and used again. */
    private static final class Shelf {
        private final Sheet[] sheets;
        private final Numbers filled;

        Shelf(int size) {
            sheets = new Sheet[size > 0 ? size : 0];
            filled = new Numbers(size);
            for (int i = 0; i < sheets.length; i++) {
                sheets[i] = new Sheet();
            }
        }

        boolean holds(int i) {
            return filled.at(i) == 1;
        }

        void store(int i, Sheet sheet) {
            Sheet kept = sheetAt(i);
            if (kept != null) {
                kept.takeFrom(sheet);
                filled.put(i, 1);
            }
        }

        void fetch(int i, Sheet into) {
            Sheet kept = sheetAt(i);
            if (kept != null && holds(i)) {
                into.takeFrom(kept);
            }
        }

        void clear() {
            filled.fill(0);
        }

        private Sheet sheetAt(int i) {
            return i >= 0 && i < sheets.length ? sheets[i] : null;
        }
    }

    /** The remembered states, in a ring: the newest takes the place of the oldest. */
    private static final class History {
        int size;
        private int next;
        private final Shelf states = new Shelf(REMEMBERED_STATES);

        void remember(Sheet sheet) {
            states.store(next, sheet);
            next = (next + 1) % REMEMBERED_STATES;
            size = Math.min(size + 1, REMEMBERED_STATES);
        }

        void takeBack(Sheet into) {
            if (size > 0) {
                next = (next + REMEMBERED_STATES - 1) % REMEMBERED_STATES;
                size--;
                states.fetch(next, into);
            }
        }

        void forget() {
            size = 0;
        }
    }

    /** Reads a text character by character into a sheet. */
    private static final class TextReader {
        private static final int START = 0;
        private static final int WIDTH = 1;
        private static final int HEIGHT = 2;
        private static final int PART = 3;
        private static final int COLUMN = 4;
        private static final int ROW = 5;
        private static final int SIGN = 6;
        private static final int INK = 7;
        private static final int SLANT = 8;
        private static final int GAP = 9;
        private static final int MARGIN = 10;
        private static final int LETTER = 11;
        private static final int LETTER_INK = 12;
        private static final int LETTER_SLANT = 13;
        private static final int LETTER_WAY = 14;

        private int awaited;
        private int column;
        private int row;
        private int sign;
        private int letter;
        private int ink;
        private int slant;

        void begin(Sheet sheet) {
            sheet.makeNew();
            awaited = START;
        }

        boolean mayEnd() {
            return awaited == PART;
        }

        /** Tells whether the rules allow the character at its place. */
        boolean allows(Sheet sheet, int c) {
            int digit = digitOf(c);
            switch (awaited) {
                case START: return c == 'S';
                case WIDTH:
                case HEIGHT: return digit >= 1;
                case PART: return c == 'm' ? sheet.hasRoomAnywhere() : c == 'g' || c == 'v' || c == 'p';
                case COLUMN: return sheet.columnHasRoom(digit);
                case ROW: return sheet.hasRoom(column, digit);
                case SIGN: return c == '-' || c >= 'a' && c <= 'z';
                case INK:
                case LETTER_INK: return digit >= 0 && digit <= GREATEST_INK;
                case SLANT:
                case LETTER_SLANT: return digit >= 0 && digit <= GREATEST_SLANT;
                case GAP: return digit >= 1 && digit <= GREATEST_GAP;
                case MARGIN: return digit >= 0;
                case LETTER: return isLetter(digit);
                default: return digit == 0 || digit == 1;
            }
        }

        /** Takes a character that is allowed at its place. */
        void take(Sheet sheet, int c) {
            int digit = digitOf(c);
            switch (awaited) {
                case START:
                    awaited = WIDTH;
                    break;
                case PART:
                    awaited = c == 'm' ? COLUMN : c == 'g' ? GAP : c == 'v' ? MARGIN : LETTER;
                    break;
                case WIDTH:
                case HEIGHT:
                case GAP:
                case MARGIN:
                    takeSetting(sheet, digit);
                    break;
                case COLUMN:
                case ROW:
                case SIGN:
                case INK:
                case SLANT:
                    takeOfMark(sheet, c);
                    break;
                default:
                    takeOfLetter(sheet, digit);
                    break;
            }
        }

        private static int digitOf(int c) {
            return c >= '0' && c <= '9' ? c - '0' : NONE;
        }

        private void takeSetting(Sheet sheet, int digit) {
            switch (awaited) {
                case WIDTH:
                    sheet.width = digit;
                    break;
                case HEIGHT:
                    sheet.height = digit;
                    break;
                case GAP:
                    sheet.gap = digit;
                    break;
                default:
                    sheet.margin = digit;
                    break;
            }
            awaited = awaited == WIDTH ? HEIGHT : PART;
        }

        private void takeOfMark(Sheet sheet, int c) {
            switch (awaited) {
                case COLUMN:
                    column = digitOf(c);
                    awaited = ROW;
                    break;
                case ROW:
                    row = digitOf(c);
                    awaited = SIGN;
                    break;
                case SIGN:
                    sign = c == '-' ? HYPHEN : c - 'a';
                    awaited = INK;
                    break;
                case INK:
                    ink = digitOf(c);
                    awaited = SLANT;
                    break;
                default:
                    sheet.addMark(column, row, sign, ink, digitOf(c));
                    awaited = PART;
                    break;
            }
        }

        private void takeOfLetter(Sheet sheet, int digit) {
            switch (awaited) {
                case LETTER:
                    letter = digit;
                    awaited = LETTER_INK;
                    break;
                case LETTER_INK:
                    ink = digit;
                    awaited = LETTER_SLANT;
                    break;
                case LETTER_SLANT:
                    slant = digit;
                    awaited = LETTER_WAY;
                    break;
                default:
                    sheet.putLetter(letter, ink, slant, digit);
                    awaited = PART;
                    break;
            }
        }
    }
}
