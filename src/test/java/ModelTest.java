import java.util.ArrayDeque;
import java.util.ArrayList;
import java.util.Arrays;
import java.util.Deque;
import java.util.List;
import java.util.Random;

/**
 * Long runs of drawn calls, each answer compared with that of a second program: a plain model,
 * written from the document alone, which makes everything anew for each call.
 */
public final class ModelTest {
    private static final int NONE = -9;
    private static final int RUNS = 6000;
    private static final int CALLS = 512;

    private static final class Mark {
        int sign;
        int ink;
        int slant;
        int decided = NONE;

        Mark(int sign, int ink, int slant) {
            this.sign = sign;
            this.ink = ink;
            this.slant = slant;
        }

        Mark copy() {
            Mark m = new Mark(sign, ink, slant);
            m.decided = decided;
            return m;
        }
    }

    private static final class State {
        int w = 6;
        int h = 6;
        int margin = 2;
        int gap = 2;
        int[][] letters = {{0, 2, 0}, {3, 6, 1}};
        List<List<List<Mark>>> columns = new ArrayList<>();

        State() {
            resize(6, 6);
        }

        void resize(int width, int height) {
            w = width;
            h = height;
            columns.clear();
            for (int x = 0; x < w; x++) {
                List<List<Mark>> column = new ArrayList<>();
                for (int y = 0; y < h; y++) {
                    column.add(new ArrayList<>());
                }
                columns.add(column);
            }
        }

        State copy() {
            State s = new State();
            s.resize(w, h);
            s.margin = margin;
            s.gap = gap;
            s.letters = new int[][] {letters[0].clone(), letters[1].clone()};
            for (int x = 0; x < w; x++) {
                for (int y = 0; y < h; y++) {
                    for (Mark m : cell(x, y)) {
                        s.cell(x, y).add(m.copy());
                    }
                }
            }
            return s;
        }

        List<Mark> cell(int x, int y) {
            return columns.get(x).get(y);
        }

        int distance(Mark m, int k) {
            return 3 * Math.abs(m.ink - letters[k][0]) + Math.abs(m.slant - letters[k][1]);
        }

        /** The rule and the letter. */
        int[] place(int x, int y, int i) {
            List<Mark> cell = cell(x, y);
            Mark m = cell.get(i);
            if (m.decided != NONE) {
                return new int[] {1, m.decided};
            }
            if (cell.size() == 2 && cell.get(1 - i).decided != NONE) {
                return new int[] {2, cell.get(1 - i).decided == 0 ? 1 : 0};
            }
            if (cell.size() == 1) {
                int d0 = distance(m, 0);
                int d1 = distance(m, 1);
                if (Math.abs(d0 - d1) > margin) {
                    return new int[] {3, d0 < d1 ? 0 : 1};
                }
                return new int[] {5, NONE};
            }
            int straight = distance(cell.get(0), 0) + distance(cell.get(1), 1);
            int crossed = distance(cell.get(0), 1) + distance(cell.get(1), 0);
            if (Math.abs(straight - crossed) > margin) {
                return new int[] {4, straight < crossed ? i : 1 - i};
            }
            return new int[] {5, NONE};
        }

        int doubtful() {
            int n = 0;
            for (int x = 0; x < w; x++) {
                for (int y = 0; y < h; y++) {
                    for (int i = 0; i < cell(x, y).size(); i++) {
                        n += place(x, y, i)[0] == 5 ? 1 : 0;
                    }
                }
            }
            return n;
        }

        /** A part of a word in one line: rows of {x, y, sign}. */
        List<List<int[]>> parts(int k, int withGap, List<Integer> lineOfPart) {
            List<List<int[]>> parts = new ArrayList<>();
            boolean rows = letters[k][2] == 0;
            for (int line = 0; line < (rows ? h : w); line++) {
                List<int[]> part = null;
                int without = 0;
                for (int p = 0; p < (rows ? w : h); p++) {
                    int x = rows ? p : line;
                    int y = rows ? line : p;
                    int sign = NONE;
                    for (int i = 0; i < cell(x, y).size(); i++) {
                        if (place(x, y, i)[1] == k) {
                            sign = cell(x, y).get(i).sign;
                        }
                    }
                    if (sign == NONE) {
                        without++;
                        continue;
                    }
                    if (part == null || without >= withGap) {
                        part = new ArrayList<>();
                        parts.add(part);
                        lineOfPart.add(line);
                    }
                    part.add(new int[] {x, y, sign});
                    without = 0;
                }
            }
            return parts;
        }

        /** Words as rows of {x, y, sign}; a hyphen that is left out has the sign NONE. */
        List<List<int[]>> fullWords(int k, int withGap) {
            List<Integer> lines = new ArrayList<>();
            List<List<int[]>> parts = parts(k, withGap, lines);
            List<List<int[]>> words = new ArrayList<>();
            boolean goesOn = false;
            for (int p = 0; p < parts.size(); p++) {
                List<int[]> part = parts.get(p);
                boolean lastOfLine = p + 1 == parts.size() || !lines.get(p + 1).equals(lines.get(p));
                boolean lastOfLetter = p + 1 == parts.size();
                boolean cut = lastOfLine && !lastOfLetter && part.get(part.size() - 1)[2] == 26;
                if (!goesOn) {
                    words.add(new ArrayList<>());
                }
                List<int[]> word = words.get(words.size() - 1);
                word.addAll(part);
                if (cut) {
                    int[] hyphen = word.remove(word.size() - 1);
                    word.add(new int[] {hyphen[0], hyphen[1], NONE});
                }
                goesOn = cut;
            }
            return words;
        }

        List<List<Integer>> words(int k, int withGap) {
            List<List<Integer>> words = new ArrayList<>();
            for (List<int[]> full : fullWords(k, withGap)) {
                List<Integer> word = new ArrayList<>();
                for (int[] sign : full) {
                    if (sign[2] != NONE) {
                        word.add(sign[2]);
                    }
                }
                words.add(word);
            }
            return words;
        }

        List<List<Integer>> words(int k) {
            return words(k, gap);
        }

        boolean hasCell(int x, int y) {
            return 0 <= x && x < w && 0 <= y && y < h;
        }

        boolean hasMark(int x, int y, int i) {
            return hasCell(x, y) && 0 <= i && i < cell(x, y).size();
        }

        State turned() {
            State s = copy();
            s.resize(h, w);
            for (int x = 0; x < w; x++) {
                for (int y = 0; y < h; y++) {
                    for (Mark m : cell(x, y)) {
                        Mark t = m.copy();
                        t.slant = 8 - m.slant;
                        s.cell(h - 1 - y, x).add(t);
                    }
                }
            }
            for (int[] letter : s.letters) {
                letter[1] = 8 - letter[1];
                letter[2] = 1 - letter[2];
            }
            return s;
        }

        int marks() {
            int n = 0;
            for (List<List<Mark>> column : columns) {
                for (List<Mark> cell : column) {
                    n += cell.size();
                }
            }
            return n;
        }
    }

    private static final class Model {
        String text = "";
        State s = new State();
        Deque<State> past = new ArrayDeque<>();
        State[] slots = new State[2];

        static RuntimeException bounds() {
            return new IndexOutOfBoundsException();
        }

        static RuntimeException argument() {
            return new IllegalArgumentException();
        }

        static RuntimeException state() {
            return new IllegalStateException();
        }

        static void require(boolean holds, RuntimeException otherwise) {
            if (!holds) {
                throw otherwise;
            }
        }

        void remember() {
            past.addLast(s.copy());
            if (past.size() > 14) {
                past.removeFirst();
            }
        }

        /** The error position, or NONE, in which case the state is in result. */
        int parse(State result) {
            int at = 0;
            if (!has(at, "S")) {
                return at;
            }
            at++;
            if (!has(at, "123456789")) {
                return at;
            }
            int w = text.charAt(at++) - '0';
            if (!has(at, "123456789")) {
                return at;
            }
            int h = text.charAt(at++) - '0';
            result.resize(w, h);
            while (at < text.length()) {
                char part = text.charAt(at);
                String[] allowed;
                if (part == 'm' && result.marks() < 2 * w * h) {
                    allowed = new String[] {"", "", "abcdefghijklmnopqrstuvwxyz-", "0123", "012345678"};
                } else if (part == 'g') {
                    allowed = new String[] {"123"};
                } else if (part == 'v') {
                    allowed = new String[] {"0123456789"};
                } else if (part == 'p') {
                    allowed = new String[] {"01", "0123", "012345678", "01"};
                } else {
                    return at;
                }
                at++;
                int[] values = new int[allowed.length];
                for (int i = 0; i < allowed.length; i++) {
                    String here = allowed[i];
                    if (part == 'm' && i == 0) {
                        for (int x = 0; x < w; x++) {
                            int used = 0;
                            for (int y = 0; y < h; y++) {
                                used += result.cell(x, y).size();
                            }
                            here += used < 2 * h ? "" + x : "";
                        }
                    } else if (part == 'm' && i == 1) {
                        for (int y = 0; y < h; y++) {
                            here += result.cell(values[0], y).size() < 2 ? "" + y : "";
                        }
                    }
                    if (!has(at, here)) {
                        return at;
                    }
                    char c = text.charAt(at++);
                    values[i] = part == 'm' && i == 2 ? here.indexOf(c) : c - '0';
                }
                if (part == 'm') {
                    result.cell(values[0], values[1]).add(new Mark(values[2], values[3], values[4]));
                } else if (part == 'g') {
                    result.gap = values[0];
                } else if (part == 'v') {
                    result.margin = values[0];
                } else {
                    result.letters[values[0]] = new int[] {values[1], values[2], values[3]};
                }
            }
            return NONE;
        }

        boolean has(int at, String allowed) {
            return at < text.length() && allowed.indexOf(text.charAt(at)) >= 0;
        }

        /** The answer of a call, told by the place of its name in NAMES. */
        int call(int f, long[] a) {
            int[] v = new int[a.length];
            for (int i = 0; i < a.length; i++) {
                v[i] = (int) a[i];
            }
            switch (NAMES[f]) {
                case "append":
                    require(v[0] >= 0 && v[0] <= 255, argument());
                    require(text.length() < 120, state());
                    text += (char) v[0];
                    return text.length();
                case "clearText":
                    int length = text.length();
                    text = "";
                    return length;
                case "errorPosition": return parse(new State());
                case "load":
                    State read = new State();
                    require(parse(read) == NONE, state());
                    s = read;
                    past.clear();
                    slots = new State[2];
                    return s.marks();
                case "about": return about(v[0]);
                case "letter": return letter(v[0], v[1]);
                case "marks":
                    require(s.hasCell(v[0], v[1]), bounds());
                    return s.cell(v[0], v[1]).size();
                case "mark": return mark(v[0], v[1], v[2], v[3]);
                case "wordLength":
                    require(v[0] == 0 || v[0] == 1, bounds());
                    require(v[1] >= 0 && v[1] < s.words(v[0]).size(), bounds());
                    return s.words(v[0]).get(v[1]).size();
                case "sign":
                    require(v[0] == 0 || v[0] == 1, bounds());
                    require(v[1] >= 0 && v[1] < s.words(v[0]).size(), bounds());
                    require(v[2] >= 0, argument());
                    List<Integer> word = s.words(v[0]).get(v[1]);
                    return v[2] < word.size() ? word.get(v[2]) : NONE;
                case "wordAt": return wordAt(v[0], v[1], v[2]);
                case "write":
                    require(s.hasCell(v[0], v[1]), bounds());
                    require(in(v[2], 0, 26) && in(v[3], 0, 3) && in(v[4], 0, 8), argument());
                    require(s.cell(v[0], v[1]).size() < 2, state());
                    remember();
                    s.cell(v[0], v[1]).add(new Mark(v[2], v[3], v[4]));
                    return s.cell(v[0], v[1]).size() - 1;
                case "erase":
                    require(s.hasMark(v[0], v[1], v[2]), bounds());
                    remember();
                    return s.cell(v[0], v[1]).remove(v[2]).sign;
                case "decide":
                    checkDecide(s, v[0], v[1], v[2], v[3]);
                    remember();
                    s.cell(v[0], v[1]).get(v[2]).decided = v[3] == 2 ? NONE : v[3];
                    return s.doubtful();
                case "setLetter":
                    require(v[0] == 0 || v[0] == 1, bounds());
                    require(in(v[1], 0, 3) && in(v[2], 0, 8) && in(v[3], 0, 1), argument());
                    remember();
                    s.letters[v[0]] = new int[] {v[1], v[2], v[3]};
                    return s.doubtful();
                case "setMargin":
                    require(in(v[0], 0, 9), argument());
                    remember();
                    int margin = s.margin;
                    s.margin = v[0];
                    return margin;
                case "setGap":
                    require(in(v[0], 1, 3), argument());
                    remember();
                    int gap = s.gap;
                    s.gap = v[0];
                    return gap;
                case "turn":
                    remember();
                    s = s.turned();
                    return s.words(0).size() + s.words(1).size();
                case "undo":
                    require(!past.isEmpty(), state());
                    s = past.removeLast();
                    return past.size();
                case "find": return find(v[0], v[1], a[2]);
                case "shared":
                    int shared = 0;
                    for (List<Integer> one : s.words(0)) {
                        shared += s.words(1).contains(one) ? 1 : 0;
                    }
                    return shared;
                case "count":
                    require(v[0] == 0 || v[0] == 1, bounds());
                    require(in(v[1], 0, 26), argument());
                    int found = 0;
                    for (List<Integer> one : s.words(v[0])) {
                        for (int sign : one) {
                            found += sign == v[1] ? 1 : 0;
                        }
                    }
                    return found;
                case "bestPen": return bestPen(v[0]);
                case "greatestMargin":
                    int greatest = NONE;
                    for (int m = 0; m <= 9; m++) {
                        State t = s.copy();
                        t.margin = m;
                        greatest = t.doubtful() == 0 ? m : greatest;
                    }
                    return greatest;
                case "bestDecision": return bestDecision(v[0]);
                case "wordsWith":
                    require(v[0] == 0 || v[0] == 1, bounds());
                    require(in(v[1], 1, 3), argument());
                    return s.words(v[0], v[1]).size();
                case "runScript": return runScript(v[0], a[1]);
                case "simulate": return simulate(a[0], v[1]);
                case "save":
                    require(in(v[0], 0, 1), bounds());
                    slots[v[0]] = s.copy();
                    return s.marks();
                default:
                    require(in(v[0], 0, 1), bounds());
                    require(slots[v[0]] != null, state());
                    s = slots[v[0]].copy();
                    past.clear();
                    return s.marks();
            }
        }

        static boolean in(int value, int least, int most) {
            return least <= value && value <= most;
        }

        int about(int what) {
            require(in(what, 0, 9), argument());
            int[] numbers = {s.w, s.h, s.marks(), s.doubtful(), 0, s.margin, s.gap, 0, 0, 0};
            for (int x = 0; x < s.w; x++) {
                for (int y = 0; y < s.h; y++) {
                    numbers[7] += s.cell(x, y).size() == 2 ? 1 : 0;
                    for (int i = 0; i < s.cell(x, y).size(); i++) {
                        numbers[4] += s.cell(x, y).get(i).decided != NONE ? 1 : 0;
                        numbers[8] += s.place(x, y, i)[1] == 0 ? 1 : 0;
                        numbers[9] += s.place(x, y, i)[1] == 1 ? 1 : 0;
                    }
                }
            }
            return numbers[what];
        }

        int letter(int k, int what) {
            require(k == 0 || k == 1, bounds());
            require(in(what, 0, 4), argument());
            if (what < 3) {
                return s.letters[k][what];
            }
            int longest = 0;
            for (List<Integer> word : s.words(k)) {
                longest = Math.max(longest, word.size());
            }
            return what == 3 ? s.words(k).size() : longest;
        }

        int mark(int x, int y, int i, int what) {
            require(s.hasMark(x, y, i), bounds());
            require(in(what, 0, 7), argument());
            Mark m = s.cell(x, y).get(i);
            int[] place = s.place(x, y, i);
            return new int[] {m.sign, m.ink, m.slant, m.decided, place[1], place[0], s.distance(m, 0),
                s.distance(m, 1)}[what];
        }

        int wordAt(int k, int x, int y) {
            require(k == 0 || k == 1, bounds());
            require(s.hasCell(x, y), bounds());
            List<List<int[]>> words = s.fullWords(k, s.gap);
            for (int n = 0; n < words.size(); n++) {
                for (int[] sign : words.get(n)) {
                    if (sign[0] == x && sign[1] == y) {
                        return n;
                    }
                }
            }
            return NONE;
        }

        static void checkDecide(State s, int x, int y, int i, int k) {
            require(s.hasMark(x, y, i), bounds());
            require(in(k, 0, 2), argument());
            List<Mark> cell = s.cell(x, y);
            require(k == 2 || cell.size() < 2 || cell.get(1 - i).decided != k, state());
        }

        int find(int k, int n, long signs) {
            require(k == 0 || k == 1, bounds());
            require(in(n, 1, 8) && signs >= 0, argument());
            String digits = "" + signs;
            require(digits.length() <= 2 * n, argument());
            while (digits.length() < 2 * n) {
                digits = "0" + digits;
            }
            List<Integer> wanted = new ArrayList<>();
            for (int i = 0; i < n; i++) {
                wanted.add(Integer.parseInt(digits.substring(2 * i, 2 * i + 2)));
                require(wanted.get(i) <= 26, argument());
            }
            List<List<Integer>> words = s.words(k);
            for (int w = 0; w < words.size(); w++) {
                List<Integer> word = words.get(w);
                if (word.size() >= n && word.subList(0, n).equals(wanted)) {
                    return w;
                }
            }
            return NONE;
        }

        int bestPen(int k) {
            require(k == 0 || k == 1, bounds());
            int best = NONE;
            int fewest = Integer.MAX_VALUE;
            for (int number = 38; number >= 0; number--) {
                if (number % 10 == 9) {
                    continue;
                }
                State t = s.copy();
                t.letters[k][0] = number / 10;
                t.letters[k][1] = number % 10;
                if (t.doubtful() <= fewest) {
                    fewest = t.doubtful();
                    best = number;
                }
            }
            return best;
        }

        int bestDecision(int k) {
            require(k == 0 || k == 1, bounds());
            int best = NONE;
            int fewest = Integer.MAX_VALUE;
            for (int number = 0; number < 1000; number++) {
                int x = number / 100;
                int y = number / 10 % 10;
                int i = number % 10;
                if (!s.hasMark(x, y, i) || s.cell(x, y).get(i).decided != NONE) {
                    continue;
                }
                State t = s.copy();
                try {
                    checkDecide(t, x, y, i, k);
                } catch (IllegalStateException e) {
                    continue;
                }
                t.cell(x, y).get(i).decided = k;
                if (t.doubtful() < fewest) {
                    fewest = t.doubtful();
                    best = number;
                }
            }
            return best;
        }

        int runScript(int n, long script) {
            require(in(n, 1, 3) && script >= 0, argument());
            String digits = "" + script;
            require(digits.length() <= 5 * n, argument());
            while (digits.length() < 5 * n) {
                digits = "0" + digits;
            }
            Model copy = new Model();
            copy.s = s.copy();
            for (int i = 0; i < n; i++) {
                boolean succeeds;
                try {
                    succeeds = copy.command(digits.substring(5 * i, 5 * i + 5));
                } catch (RuntimeException e) {
                    succeeds = false;
                }
                if (!succeeds) {
                    return i;
                }
            }
            return NONE;
        }

        boolean command(String group) {
            long a = group.charAt(1) - '0';
            long b = group.charAt(2) - '0';
            long c = group.charAt(3) - '0';
            long d = group.charAt(4) - '0';
            switch (group.charAt(0)) {
                case '1':
                    call(indexOf("decide"), new long[] {a, b, c, d});
                    return true;
                case '2':
                    require(d == 0, argument());
                    call(indexOf("erase"), new long[] {a, b, c});
                    return true;
                case '3':
                    call(indexOf("setLetter"), new long[] {a, b, c, d});
                    return true;
                case '4':
                    require(a == 0 && b == 0 && c == 0, argument());
                    call(indexOf("setMargin"), new long[] {d});
                    return true;
                case '5':
                    require(group.equals("50000"), argument());
                    call(indexOf("turn"), new long[0]);
                    return true;
                case '6':
                    require(b == 0, argument());
                    return letter((int) a, 3) >= 10 * c + d;
                case '7':
                    require(a == 0 && b == 0, argument());
                    return s.doubtful() <= 10 * c + d;
                case '8':
                    return call(indexOf("wordLength"), new long[] {a, b}) == 10 * c + d;
                case '9':
                    require(d <= 2, argument());
                    return mark((int) a, (int) b, (int) c, 4) == (d == 2 ? NONE : d);
                default:
                    return false;
            }
        }

        int simulate(long seed, int m) {
            require(in(m, 1, 99), argument());
            State t = s.copy();
            long x = seed;
            for (int i = 0; i < m; i++) {
                x = x * 6364136223846793005L + 1442695040888963407L;
                int r = (int) (x >>> 33);
                List<Mark> cell = t.cell(r % t.w, r / 16 % t.h);
                if (cell.size() == 2) {
                    cell.remove(0);
                }
                cell.add(new Mark(r / 256 % 27, r / 8192 % 4, r / 65536 % 9));
            }
            return 1000 * (t.words(0).size() + t.words(1).size()) + t.doubtful();
        }
    }

    private static final String[] NAMES = {"append", "clearText", "errorPosition", "load", "about", "letter",
        "marks", "mark", "wordLength", "sign", "wordAt", "write", "erase", "decide", "setLetter", "setMargin",
        "setGap", "turn", "undo", "find", "shared", "count", "bestPen", "greatestMargin", "bestDecision",
        "wordsWith", "runScript", "simulate", "save", "restore"};

    private static int indexOf(String name) {
        return Arrays.asList(NAMES).indexOf(name);
    }

    private static int real(CrossedSheet x, int f, long[] a) {
        int[] v = new int[a.length];
        for (int i = 0; i < a.length; i++) {
            v[i] = (int) a[i];
        }
        switch (NAMES[f]) {
            case "append": return x.append(v[0]);
            case "clearText": return x.clearText();
            case "errorPosition": return x.errorPosition();
            case "load": return x.load();
            case "about": return x.about(v[0]);
            case "letter": return x.letter(v[0], v[1]);
            case "marks": return x.marks(v[0], v[1]);
            case "mark": return x.mark(v[0], v[1], v[2], v[3]);
            case "wordLength": return x.wordLength(v[0], v[1]);
            case "sign": return x.sign(v[0], v[1], v[2]);
            case "wordAt": return x.wordAt(v[0], v[1], v[2]);
            case "write": return x.write(v[0], v[1], v[2], v[3], v[4]);
            case "erase": return x.erase(v[0], v[1], v[2]);
            case "decide": return x.decide(v[0], v[1], v[2], v[3]);
            case "setLetter": return x.setLetter(v[0], v[1], v[2], v[3]);
            case "setMargin": return x.setMargin(v[0]);
            case "setGap": return x.setGap(v[0]);
            case "turn": return x.turn();
            case "undo": return x.undo();
            case "find": return x.find(v[0], v[1], a[2]);
            case "shared": return x.shared();
            case "count": return x.count(v[0], v[1]);
            case "bestPen": return x.bestPen(v[0]);
            case "greatestMargin": return x.greatestMargin();
            case "bestDecision": return x.bestDecision(v[0]);
            case "wordsWith": return x.wordsWith(v[0], v[1]);
            case "runScript": return x.runScript(v[0], a[1]);
            case "simulate": return x.simulate(a[0], v[1]);
            case "save": return x.save(v[0]);
            default: return x.restore(v[0]);
        }
    }

    private static final int[] ARGUMENTS = {1, 0, 0, 0, 1, 2, 2, 4, 2, 3, 3, 5, 3, 4, 4, 1, 1, 0, 0, 3, 0, 2, 1, 0,
        1, 2, 2, 2, 1, 1};

    private final Random random;
    private final Model model = new Model();
    private final CrossedSheet sheet = new CrossedSheet();
    private final StringBuilder told = new StringBuilder();
    private int calls = 0;
    private boolean wrong = false;
    private final int hyphens;
    private final int pens;
    private final int wild;

    private ModelTest(long seed) {
        random = new Random(seed);
        hyphens = random.nextInt(3);
        pens = random.nextInt(3);
        wild = random.nextInt(4) == 0 ? 8 : 60;
    }

    private static String outcome(java.util.function.IntSupplier call) {
        try {
            return "" + call.getAsInt();
        } catch (RuntimeException e) {
            return e.getClass().getSimpleName();
        }
    }

    private void both(int f, long... a) {
        if (wrong || calls >= CALLS) {
            return;
        }
        calls++;
        String due = outcome(() -> model.call(f, a));
        String got = outcome(() -> real(sheet, f, a));
        told.append(NAMES[f]).append(Arrays.toString(a)).append(" = ").append(got).append('\n');
        if (!due.equals(got)) {
            wrong = true;
            told.append("due is ").append(due).append('\n');
        }
    }

    private void both(String name, long... a) {
        both(indexOf(name), a);
    }

    private int below(int n) {
        return n < 1 ? 0 : random.nextInt(n);
    }

    private int x() {
        return below(wild) == 0 ? below(12) - 2 : below(model.s.w);
    }

    private int y() {
        return below(wild) == 0 ? below(12) - 2 : below(model.s.h);
    }

    private int upTo(int least, int most) {
        if (below(wild) == 0) {
            return below(3) == 0 ? random.nextInt() : least - 2 + below(most - least + 5);
        }
        return least + below(most - least + 1);
    }

    private int drawSign() {
        if (below(3) < hyphens) {
            return upTo(26, 26);
        }
        return below(2) == 0 ? upTo(0, 2) : upTo(0, 26);
    }

    private int drawInk() {
        return pens == 0 ? upTo(0, 3) : pens == 1 ? 3 * below(2) : upTo(1, 2);
    }

    private int drawSlant() {
        return pens == 1 ? 2 + 4 * below(2) : upTo(0, 8);
    }

    private void drawCall() {
        int f = below(NAMES.length);
        if (below(3) == 0) {
            f = indexOf("write");
        }
        switch (NAMES[f]) {
            case "append":
            case "clearText":
            case "load":
                if (below(6) == 0) {
                    drawText();
                }
                break;
            case "about": both(f, upTo(0, 9)); break;
            case "letter": both(f, upTo(0, 1), upTo(0, 4)); break;
            case "marks": both(f, x(), y()); break;
            case "mark": both(f, x(), y(), upTo(0, 1), upTo(0, 7)); break;
            case "wordLength": both(f, upTo(0, 1), upTo(0, 6)); break;
            case "sign": both(f, upTo(0, 1), upTo(0, 3), upTo(0, 3)); break;
            case "wordAt": both(f, upTo(0, 1), x(), y()); break;
            case "write": both(f, x(), y(), drawSign(), drawInk(), drawSlant()); break;
            case "erase": both(f, x(), y(), upTo(0, 1)); break;
            case "decide": both(f, x(), y(), upTo(0, 1), upTo(0, 2)); break;
            case "setLetter": both(f, upTo(0, 1), drawInk(), drawSlant(), upTo(0, 1)); break;
            case "setMargin": both(f, upTo(0, 9)); break;
            case "setGap": both(f, upTo(1, 3)); break;
            case "undo":
                for (int i = below(20); i >= 0; i--) {
                    both(f);
                }
                break;
            case "find": drawFind(f); break;
            case "count": both(f, upTo(0, 1), drawSign()); break;
            case "bestPen":
            case "bestDecision": both(f, upTo(0, 1)); break;
            case "wordsWith": both(f, upTo(0, 1), upTo(1, 3)); break;
            case "runScript": drawScript(f); break;
            case "simulate": both(f, random.nextLong(), upTo(1, below(2) == 0 ? 9 : 99)); break;
            case "save":
            case "restore": both(f, upTo(0, 1)); break;
            default: both(f); break;
        }
    }

    private void drawFind(int f) {
        int k = below(2);
        List<List<Integer>> words = model.s.words(k);
        long signs = 0;
        int n = upTo(1, 4);
        if (!words.isEmpty() && below(5) != 0) {
            List<Integer> word = words.get(below(words.size()));
            n = Math.min(8, 1 + below(word.size()));
            for (int i = 0; i < n; i++) {
                signs = 100 * signs + word.get(i);
            }
        } else {
            for (int i = 0; i < n && i < 9; i++) {
                signs = 100 * signs + drawSign();
            }
        }
        both(f, upTo(k, k), below(wild) == 0 ? n + below(3) - 1 : n, below(wild) == 0 ? random.nextLong() : signs);
    }

    private void drawScript(int f) {
        int n = upTo(1, 3);
        long script = 0;
        for (int i = 0; i < n && i < 4; i++) {
            script = 100_000 * script + drawGroup();
        }
        both(f, n, below(wild) == 0 ? random.nextLong() >> below(40) : script);
    }

    private int digits(int a, int b, int c, int d, int e) {
        return 10_000 * a + 1000 * Math.floorMod(b, 10) + 100 * Math.floorMod(c, 10) + 10 * Math.floorMod(d, 10) + e;
    }

    private int drawGroup() {
        switch (below(11)) {
            case 0: return digits(1, x(), y(), below(2), below(4));
            case 1: return digits(2, x(), y(), below(2), below(8) / 7);
            case 2: return digits(3, below(9) / 4, below(9) / 2, below(8), below(9) / 4);
            case 3: return 40_000 + below(10) + (below(8) == 0 ? 10 * below(100) : 0);
            case 4: return 50_000 + (below(6) == 0 ? below(12) : 0);
            case 5: return digits(6, below(9) / 4, below(8) / 7, 0, below(8));
            case 6: return digits(7, below(9) / 8, below(9) / 8, below(2), below(10));
            case 7: return digits(8, below(9) / 4, below(4), below(9) / 8, below(5));
            case 8: return digits(9, x(), y(), below(2), below(9) / 2);
            case 9: return digits(9, x(), y(), 0, below(3));
            default: return below(100_000);
        }
    }

    private void drawText() {
        if (below(5) != 0) {
            both("clearText");
        }
        StringBuilder text = new StringBuilder();
        int w = below(3) == 0 ? 1 + below(2) : 1 + below(9);
        int h = below(3) == 0 ? 1 + below(2) : 1 + below(9);
        text.append('S').append(w).append(h);
        for (int parts = below(20); parts > 0; parts--) {
            switch (below(9)) {
                case 0: text.append('g').append(1 + below(3)); break;
                case 1: text.append('v').append(below(10)); break;
                case 2: text.append('p').append(below(2)).append(below(4)).append(below(9)).append(below(2)); break;
                default:
                    int sign = below(4) == 0 ? '-' : 'a' + below(26);
                    text.append('m').append(below(w)).append(below(h)).append((char) sign).append(below(4))
                        .append(below(9));
                    break;
            }
        }
        if (below(4) == 0) {
            text.setCharAt(below(text.length()), (char) below(below(3) == 0 ? 256 : 128));
        }
        if (below(4) == 0) {
            text.setLength(below(text.length() + 1));
        }
        if (below(12) == 0) {
            while (text.length() < 123) {
                text.append("v3");
            }
        }
        for (int i = 0; i < text.length(); i++) {
            both("append", text.charAt(i));
        }
        both("append", upTo(256, 256));
        both("errorPosition");
        both("load");
    }

    private boolean run() {
        if (below(4) != 0) {
            drawText();
        }
        while (calls < CALLS && !wrong) {
            drawCall();
        }
        return !wrong;
    }

    public static void main(String[] args) {
        int failed = 0;
        for (int seed = 0; seed < RUNS && failed < 3; seed++) {
            ModelTest test = new ModelTest(seed);
            if (!test.run()) {
                failed++;
                System.out.println("run " + seed + ":\n" + test.told);
            }
        }
        System.out.println(failed == 0 ? "all drawn runs answer as the model does" : failed + " drawn runs differ");
        if (failed != 0) {
            System.exit(1);
        }
    }
}
