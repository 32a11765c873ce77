import java.util.ArrayList;
import java.util.List;
import java.util.function.Supplier;

/** The promises 28 and 29: scripts and simulations. */
final class ScriptEdges {
    static final Runnable[] ALL = {ScriptEdges::section, ScriptEdges::copy, ScriptEdges::groups,
        ScriptEdges::decides, ScriptEdges::erases, ScriptEdges::setsLetter, ScriptEdges::setsMargin,
        ScriptEdges::turns, ScriptEdges::words, ScriptEdges::doubtful, ScriptEdges::signs, ScriptEdges::belongs,
        ScriptEdges::fail, ScriptEdges::twoDigits, ScriptEdges::arguments, ScriptEdges::firstFailing,
        ScriptEdges::scriptBounds, ScriptEdges::simulateCopy, ScriptEdges::rounds, ScriptEdges::simulateArguments,
        ScriptEdges::simulateReturns};
    private static final long YES = 70099;
    private static final long NO = 0;

    private ScriptEdges() {
    }

    private static void section() {
        Checks.says("Terms", "Ahead of the calls `runScript`, `simulate` the interface says: ---- scripts,"
            + " simulations.");
        CrossedSheet x = Situations.used();
        x.runScript(3, 50000_40009_11102L);
        x.simulate(0, 99);
        Checks.is(4, Checks.remembered(x));
    }

    /** What the commands of a script are asked about, as the methods tell it. */
    private static final class Told {
        final int[][] marks = new int[10][10];
        final int[][][] decided = new int[10][10][2];
        final int[][][] belongs = new int[10][10][2];
        final List<List<Integer>> lengths = new ArrayList<>();
        final int doubtful;

        Told(Supplier<CrossedSheet> situation) {
            CrossedSheet x = situation.get();
            doubtful = x.about(3);
            int width = x.about(0);
            int height = x.about(1);
            for (int cell = 0; cell < width * height; cell++) {
                int cx = cell % width;
                int cy = cell / width;
                marks[cx][cy] = x.marks(cx, cy);
                for (int i = 0; i < marks[cx][cy]; i++) {
                    decided[cx][cy][i] = x.mark(cx, cy, i, 3);
                    belongs[cx][cy][i] = x.mark(cx, cy, i, 4);
                }
            }
            CrossedSheet y = situation.get();
            for (int k = 0; k < 2; k++) {
                List<Integer> ofLetter = new ArrayList<>();
                int words = y.letter(k, 3);
                for (int n = 0; n < words; n++) {
                    ofLetter.add(y.wordLength(k, n));
                }
                lengths.add(ofLetter);
            }
        }

        boolean succeeds(long group) {
            int a = (int) (group / 1000 % 10);
            int b = (int) (group / 100 % 10);
            int c = (int) (group / 10 % 10);
            int d = (int) (group % 10);
            boolean there = c < marks[a][b];
            switch ((int) (group / 10_000)) {
                case 1: return there && (d == 2 || d < 2 && (marks[a][b] == 1 || decided[a][b][1 - c] != d));
                case 2: return there && d == 0;
                case 3: return a <= 1 && b <= 3 && c <= 8 && d <= 1;
                case 4: return group <= 40009;
                case 5: return group == 50000;
                case 6: return a <= 1 && b == 0 && lengths.get(a).size() >= 10 * c + d;
                case 7: return group <= 70099 && doubtful <= group - 70000;
                case 8: return a <= 1 && b < lengths.get(a).size() && lengths.get(a).get(b) == 10 * c + d;
                case 9: return there && d <= 2 && belongs[a][b][c] == (d == 2 ? Checks.NONE : d);
                default: return false;
            }
        }
    }

    private static void allSucceedOrFail(Supplier<CrossedSheet> situation, int from, int to) {
        Told told = new Told(situation);
        CrossedSheet x = situation.get();
        for (int group = from; group <= to; group++) {
            if (group % 300 == 0) {
                x = situation.get();
            }
            int due = told.succeeds(group) ? Checks.NONE : 0;
            int got = x.runScript(1, group);
            if (got != due) {
                Checks.tell("the command " + group + " answered " + got + ", due is " + due);
            }
        }
        Checks.isTrue(true);
    }

    /** Nine columns and rows, with two marks in the cells of the even columns, and one in the others. */
    private static CrossedSheet large() {
        CrossedSheet x = Checks.loaded("S99g1");
        for (int place = 0; place < 162; place++) {
            if (place % 2 == 0 || place / 2 % 9 % 2 == 0) {
                x.write(place / 2 % 9, place / 18, place % 27, place % 7 / 2, place % 9);
            }
        }
        x.decide(8, 8, 0, 1);
        x.decide(8, 8, 1, 0);
        x.decide(0, 8, 1, 0);
        return x;
    }

    /** All groups with this first digit. */
    private static void allGroups(int first) {
        allSucceedOrFail(CrossedSheet::new, 10_000 * first, 10_000 * first + 9_999);
        allSucceedOrFail(Situations::used, 10_000 * first, 10_000 * first + 9_999);
        allSucceedOrFail(ScriptEdges::large, 10_000 * first, 10_000 * first + 9_999);
    }

    private static long joined(long... groups) {
        long script = 0;
        for (long group : groups) {
            script = 100_000 * script + group;
        }
        return script;
    }

    /** After the command, all further ones answer as after the call. */
    private static void doesAs(long group, Checks.Call call) {
        Told told = new Told(() -> {
            CrossedSheet y = Situations.used();
            call.on(y);
            return y;
        });
        CrossedSheet x = Situations.used();
        int calls = 0;
        for (int next = 10_000; next < 100_000; next++) {
            boolean near = next / 1000 % 10 <= 3 && next / 100 % 10 <= 3 && next / 10 % 10 <= 2 && next % 10 <= 6;
            if (near && next / 10_000 != 3) {
                calls++;
                if (calls % 300 == 0) {
                    x = Situations.used();
                }
                Checks.is(told.succeeds(next) ? Checks.NONE : 1, x.runScript(2, joined(group, next)));
            }
        }
        long again = joined(group, group);
        CrossedSheet twice = Situations.used();
        call.on(twice);
        boolean fails = Checks.outcome(twice, call).startsWith("java");
        Checks.is(fails ? 1 : Checks.NONE, Situations.used().runScript(2, again));
        if (!fails) {
            Checks.is(twice.about(3), doubtfulAfter(again));
        }
    }

    /** The number of doubtful marks behind two commands. */
    private static int doubtfulAfter(long commands) {
        CrossedSheet x = Situations.used();
        for (int doubtful = 0; doubtful < 100; doubtful++) {
            if (x.runScript(3, joined(commands, 70000 + doubtful)) == Checks.NONE) {
                return doubtful;
            }
        }
        return -1;
    }

    private static void copy() {
        Checks.says("Promise 28", "Runs a script on a copy of the state.");
        for (long script : new long[] {joined(50000, 40009, 20000), joined(11100, 21000, 21000),
            joined(31000, 0, 0)}) {
            Checks.changesNothing(x -> x.runScript(3, script));
            Checks.changesNothingIn(Situations::fullOfStates, x -> x.runScript(3, script));
        }
        CrossedSheet x = Situations.used();
        Checks.is(Checks.NONE, x.runScript(2, joined(21000, 21000)));
        Checks.is(Checks.NONE, x.runScript(2, joined(21000, 21000)));
        Checks.is(2, x.runScript(3, joined(21000, 21000, 21000)));
    }

    private static void groups() {
        Checks.says("Promise 28", "A script has 1 to 3 commands; each is a group of five decimal digits d1 to d5,"
            + " and the first command is the highest group of the number (with zeros before it, if it has fewer"
            + " digits).");
        CrossedSheet x = Situations.used();
        Checks.is(Checks.NONE, x.runScript(1, YES));
        Checks.is(0, x.runScript(2, YES));
        Checks.is(0, x.runScript(3, YES));
        Checks.is(0, x.runScript(3, joined(YES, YES)));
        Checks.is(Checks.NONE, x.runScript(2, joined(YES, YES)));
        Checks.is(Checks.NONE, x.runScript(3, joined(YES, YES, YES)));
        Checks.is(0, x.runScript(1, 0));
        Checks.is(0, x.runScript(1, 7009));
        // The margin is set before the doubtful marks are counted, or after it.
        Checks.is(Checks.NONE, x.runScript(2, joined(40000, 70000)));
        Checks.is(0, x.runScript(2, joined(70000, 40000)));
        Checks.is(Checks.NONE, x.runScript(3, joined(40009, 40000, 70000)));
        Checks.is(2, x.runScript(3, joined(40000, 40009, 70000)));
    }

    private static void decides() {
        Checks.says("Promise 28", "1 x y i k: decides the mark i of the cell (x, y) for the letter k, or takes"
            + " its decision back (k is 2).");
        allGroups(1);
        doesAs(11100, x -> x.decide(1, 1, 0, 0));
        doesAs(11101, x -> x.decide(1, 1, 0, 1));
        doesAs(11012, x -> x.decide(1, 0, 1, 2));
        doesAs(11001, x -> x.decide(1, 0, 0, 1));
        doesAs(12102, x -> x.decide(2, 1, 0, 2));
        Checks.is(0, Situations.used().runScript(1, 11000));
    }

    private static void erases() {
        Checks.says("Promise 28", "2 x y i 0: erases the mark i of the cell (x, y).");
        allGroups(2);
        doesAs(21000, x -> x.erase(1, 0, 0));
        doesAs(21010, x -> x.erase(1, 0, 1));
        doesAs(20100, x -> x.erase(0, 1, 0));
        doesAs(22100, x -> x.erase(2, 1, 0));
    }

    private static void setsLetter() {
        Checks.says("Promise 28", "3 k i s w: the letter k gets the ink i, the slant s and the way w.");
        allGroups(3);
        doesAs(30151, x -> x.setLetter(0, 1, 5, 1));
        doesAs(30380, x -> x.setLetter(0, 3, 8, 0));
        doesAs(31000, x -> x.setLetter(1, 0, 0, 0));
        doesAs(31051, x -> x.setLetter(1, 0, 5, 1));
    }

    private static void setsMargin() {
        Checks.says("Promise 28", "4 0 0 0 v: the margin becomes v.");
        allGroups(4);
        for (int v = 0; v <= 9; v++) {
            int margin = v;
            doesAs(40000 + v, x -> x.setMargin(margin));
        }
    }

    private static void turns() {
        Checks.says("Promise 28", "5 0 0 0 0: turns the sheet.");
        allGroups(5);
        doesAs(50000, CrossedSheet::turn);
        CrossedSheet wide = Checks.loaded("S92m80a02m01b36");
        Checks.is(Checks.NONE, wide.runScript(3, joined(50000, 91800, 90001)));
        Checks.is(1, wide.runScript(2, joined(50000, 98000)));
    }

    private static void words() {
        Checks.says("Promise 28", "6 k 0 u v: succeeds if the letter k has at least uv words.");
        allGroups(6);
        String line = "a.a.a.a.a";
        CrossedSheet most = WordEdges.drawn(0, 0, 1, line, line, line, line, line, line, line, line, line);
        Checks.is(Checks.NONE, most.runScript(1, 60045));
        Checks.is(0, most.runScript(1, 60046));
        Checks.is(Checks.NONE, most.runScript(1, 60000));
        Checks.is(Checks.NONE, most.runScript(1, 61000));
        Checks.is(0, most.runScript(1, 61001));
        Checks.is(0, most.runScript(1, 62000));
        Checks.is(0, most.runScript(1, 60100));
    }

    /** A sheet with just this many doubtful marks. */
    private static CrossedSheet withDoubtful(int doubtful) {
        CrossedSheet x = Checks.loaded("S99m88a02");
        for (int place = 0; place < doubtful; place++) {
            x.write(place / 2 % 9, place / 18, 0, 1, 5);
        }
        return x;
    }

    private static void doubtful() {
        Checks.says("Promise 28", "7 0 0 u v: succeeds if at most uv marks are doubtful.");
        allGroups(7);
        for (int doubtful : new int[] {0, 1, 9, 10, 11, 98, 99, 100, 160}) {
            for (int most = 0; most <= 99; most++) {
                if (most % 10 == 0) {
                    Checks.is(doubtful, withDoubtful(doubtful).about(3));
                }
                Checks.is(doubtful <= most ? Checks.NONE : 0, withDoubtful(doubtful).runScript(1, 70000 + most));
            }
        }
    }

    private static void signs() {
        Checks.says("Promise 28", "8 k n u v: succeeds if the word n (0 to 9) of the letter k has just uv signs.");
        allGroups(8);
        String hyphens = "---------";
        CrossedSheet longest = WordEdges.drawn(1, 0, 1, hyphens, hyphens, hyphens, hyphens, hyphens, hyphens, hyphens,
            hyphens, hyphens);
        Checks.is(Checks.NONE, longest.runScript(1, 81073));
        Checks.is(0, longest.runScript(1, 81072));
        Checks.is(0, longest.runScript(1, 81074));
        Checks.is(0, longest.runScript(1, 80000));
        Checks.is(0, longest.runScript(1, 81100));
        CrossedSheet ten = WordEdges.drawn(0, 0, 1, "a.a.a.a.a", "a.a.a.a.b", "bb.......");
        Checks.is(Checks.NONE, ten.runScript(1, 80901));
        Checks.is(0, ten.runScript(1, 80902));
        Checks.is(0, ten.runScript(1, 80900));
        ten.erase(0, 0, 0);
        Checks.is(Checks.NONE, ten.runScript(1, 80902));
        ten.erase(2, 0, 0);
        Checks.is(0, ten.runScript(1, 80902));
        Checks.is(Checks.NONE, ten.runScript(1, 80802));
        CrossedSheet tenth = WordEdges.drawn(0, 0, 1, "a.a.a.a.a", "a.a.a.a..", hyphens, hyphens, hyphens, hyphens,
            hyphens, hyphens, hyphens);
        Checks.is(Checks.NONE, tenth.runScript(1, 80957));
        Checks.is(0, tenth.runScript(1, 80956));
        Checks.is(0, tenth.runScript(1, 81957));
    }

    private static void belongs() {
        Checks.says("Promise 28", "9 x y i k: succeeds if the mark i of the cell (x, y) belongs to the letter k,"
            + " or is doubtful (k is 2).");
        allGroups(9);
        CrossedSheet x = Situations.used();
        Checks.is(Checks.NONE, x.runScript(3, joined(91102, 91001, 91010)));
        Checks.is(0, x.runScript(1, 91103));
        Checks.is(0, x.runScript(1, 91109));
        Checks.is(0, x.runScript(1, 90002));
        Checks.is(0, x.runScript(1, 91022));
    }

    private static void fail() {
        Checks.says("Promise 28", "The commands 1 to 5 fail if the method with this effect would throw an"
            + " exception; commands with cells, marks, letters or words that do not exist fail, and so does any"
            + " other group (also one with another digit where a 0 is written).");
        allGroups(0);
        CrossedSheet x = Situations.used();
        for (int group : new int[] {11000, 11003, 13000, 10200, 10000, 11020, 21001, 23000, 20000, 30400, 30090,
            30002, 32000, 40010, 40100, 41000, 50001, 50010, 50100, 51000, 62000, 60100, 70100, 71000, 82001,
            80201, 81201, 93000, 90200, 90000, 91020, 99999, 9999, 1, 0}) {
            Checks.is(0, x.runScript(1, group));
        }
    }

    private static void twoDigits() {
        Checks.says("Promise 28", "uv is a decimal number.");
        CrossedSheet ten = withDoubtful(10);
        Checks.is(0, ten.runScript(1, 70009));
        Checks.is(Checks.NONE, ten.runScript(1, 70010));
        Checks.is(0, withDoubtful(21).runScript(1, 70012));
        Checks.is(Checks.NONE, withDoubtful(12).runScript(1, 70012));
        CrossedSheet twelve = WordEdges.drawn(0, 0, 1, "abcdef-..", "abcdef...", "a.a.a.a.a", "a.a.a.a.a",
            "a........");
        Checks.is(Checks.NONE, twelve.runScript(2, joined(80012, 60012)));
        Checks.is(0, twelve.runScript(1, 80021));
        Checks.is(0, twelve.runScript(1, 60013));
        Checks.is(0, twelve.runScript(1, 60021));
    }

    private static void arguments() {
        Checks.says("Promise 28", "`n`: number of commands, 1 to 3");
        CrossedSheet x = Situations.used();
        Checks.is(Checks.NONE, x.runScript(1, joined(YES)));
        Checks.is(Checks.NONE, x.runScript(2, joined(YES, YES)));
        Checks.is(Checks.NONE, x.runScript(3, joined(YES, YES, YES)));
        Checks.says("Promise 28", "`script`: the commands, a number of at most 5 * n digits (0 or more)");
        for (int n = 1; n <= 3; n++) {
            long most = n == 1 ? 99_999L : n == 2 ? 99_999_99_999L : 99_999_99_999_99_999L;
            Checks.is(0, x.runScript(n, most));
            Checks.is(0, x.runScript(n, 0));
            Checks.is(0, x.runScript(n, 1));
        }
    }

    private static void firstFailing() {
        Checks.says("Promise 28", "Returns the index, from 0, of the first command that fails; NONE if all"
            + " succeed.");
        CrossedSheet x = Situations.used();
        for (int n = 1; n <= 3; n++) {
            for (int which = 0; which < 1 << n; which++) {
                long script = 0;
                int due = Checks.NONE;
                for (int i = 0; i < n; i++) {
                    boolean fails = (which >> i & 1) == 1;
                    script = joined(script, fails ? NO : YES);
                    due = fails && due == Checks.NONE ? i : due;
                }
                Checks.is(due, x.runScript(n, script));
            }
        }
    }

    private static void scriptBounds() {
        Checks.says("Promise 28", "Throws `IllegalArgumentException` if n is out of range, or if script is"
            + " negative or has more than 5 * n digits");
        for (int n : Checks.outside(1, 3)) {
            Checks.refused(Checks.ARGUMENT, x -> x.runScript(n, YES));
            Checks.refused(Checks.ARGUMENT, x -> x.runScript(n, 0));
        }
        Checks.refused(Checks.ARGUMENT, x -> x.runScript(4, joined(YES, YES, YES)));
        for (int commands = 1; commands <= 3; commands++) {
            int n = commands;
            long over = n == 1 ? 100_000L : n == 2 ? 10_000_000_000L : 1_000_000_000_000_000L;
            for (long script : new long[] {over, over + YES, 10 * over, -1, -YES, -over, Long.MIN_VALUE,
                Long.MAX_VALUE}) {
                Checks.refused(Checks.ARGUMENT, x -> x.runScript(n, script));
            }
        }
    }

    /** The answer of simulate, by the actions that it tells of. */
    private static int byActions(Supplier<CrossedSheet> situation, long seed, int rounds) {
        CrossedSheet x = situation.get();
        int width = x.about(0);
        int height = x.about(1);
        long drawn = seed;
        for (int round = 0; round < rounds; round++) {
            drawn = drawn * 6364136223846793005L + 1442695040888963407L;
            int r = (int) (drawn >>> 33);
            int column = r % width;
            int row = r / 16 % height;
            if (x.marks(column, row) == 2) {
                x.erase(column, row, 0);
            }
            x.write(column, row, r / 256 % 27, r / 8192 % 4, r / 65536 % 9);
        }
        return 1000 * (x.letter(0, 3) + x.letter(1, 3)) + x.about(3);
    }

    private static void isSimulated(Supplier<CrossedSheet> situation, long seed, int rounds) {
        Checks.is(byActions(situation, seed, rounds), situation.get().simulate(seed, rounds));
    }

    private static void simulateCopy() {
        Checks.says("Promise 29", "Simulates m rounds on a copy of the state.");
        for (int m : new int[] {1, 2, 99}) {
            Checks.changesNothing(x -> x.simulate(4, m));
            Checks.changesNothingIn(Situations::fullOfStates, x -> x.simulate(4, m));
            Checks.changesNothingIn(Situations::bothSaved, x -> x.simulate(4, m));
        }
        CrossedSheet x = Situations.used();
        Checks.is(x.simulate(5, 50), x.simulate(5, 50));
    }

    private static void rounds() {
        Checks.says("Promise 29", "A long x starts as the seed. Each round first replaces x by x *"
            + " 6364136223846793005L + 1442695040888963407L (with long overflow), and r = (int) (x >>> 33) is"
            + " computed.");
        for (long seed = -20; seed < 20; seed++) {
            for (int m = 1; m <= 4; m++) {
                isSimulated(() -> Checks.loaded("S22m00a15m11b15v4"), seed, m);
                isSimulated(() -> Checks.loaded("S99"), seed << 40, m);
            }
        }
        Checks.says("Promise 29", "In the cell in the column r % W and the row r / 16 % H, the mark 0 is erased,"
            + " if the cell has two marks; then a mark with the sign r / 256 % 27, the ink r / 8192 % 4 and the"
            + " slant r / 65536 % 9 is written in it.");
        for (int w = 1; w <= 9; w++) {
            for (int h = 1; h <= 9; h++) {
                String size = "S" + w + h;
                isSimulated(() -> Checks.loaded(size + "g1v1"), 31L * w + h, 99);
                isSimulated(() -> Checks.loaded(size + "g3v5"), -w, 7 * h);
            }
        }
        for (long seed = 0; seed < 60; seed++) {
            isSimulated(Situations::used, seed * 7919, 12);
            isSimulated(() -> Checks.loaded("S11m00a02m00b36"), seed, 1);
            isSimulated(() -> Checks.loaded("S11m00a15v9"), seed, 1);
            isSimulated(() -> decidedPair(0), seed, 1);
            isSimulated(() -> decidedPair(1), seed, 1);
            isSimulated(() -> decidedPair(1), seed, 2);
            isSimulated(ScriptEdges::eighteen, seed, 20);
        }
    }

    /** One cell with two marks, one of them decided, so that the other is never doubtful. */
    private static CrossedSheet decidedPair(int i) {
        CrossedSheet x = Checks.loaded("S11v9m00a15m00b15");
        x.decide(0, 0, i, 1 - i);
        return x;
    }

    private static CrossedSheet eighteen() {
        StringBuilder text = new StringBuilder("S33g1v3");
        for (int place = 0; place < 18; place++) {
            text.append('m').append(place / 6).append(place % 3).append(place % 2 == 0 ? "-02" : "-36");
        }
        return Checks.loaded(text.toString());
    }

    private static void simulateArguments() {
        Checks.says("Promise 29", "`seed`: any long");
        for (long seed : new long[] {0, 1, -1, Long.MIN_VALUE, Long.MAX_VALUE, 1L << 33, -(1L << 33), 1L << 32,
            6364136223846793005L, -1442695040888963407L}) {
            isSimulated(Situations::used, seed, 1);
            isSimulated(Situations::used, seed, 30);
            isSimulated(() -> Checks.loaded("S77v1"), seed, 60);
        }
        Checks.says("Promise 29", "`m`: number of rounds, 1 to 99");
        for (int m = 1; m <= 99; m++) {
            isSimulated(Situations::used, 12345, m);
            isSimulated(() -> Checks.loaded("S98"), 12345, m);
        }
        Checks.says("Promise 29", "Throws `IllegalArgumentException` if m is out of range");
        for (int m : Checks.outside(1, 99)) {
            Checks.refused(Checks.ARGUMENT, x -> x.simulate(0, m));
            Checks.refused(Checks.ARGUMENT, x -> x.simulate(Long.MIN_VALUE, m));
        }
    }

    private static void simulateReturns() {
        Checks.says("Promise 29", "Returns 1000 * (the number of words of both letters) + (the number of doubtful"
            + " marks) at the end.");
        // One more mark in a sheet of one cell: alone it is told or doubtful.
        for (long seed = 0; seed < 40; seed++) {
            int got = new CrossedSheet().simulate(seed, 1);
            Checks.isTrue(got == 1000 || got == 1);
        }
        Checks.is(2000, decidedPair(1).simulate(0, 1));
        Checks.is(2, Checks.loaded("S11p0000p1000m00a00").simulate(0, 1));
        Checks.is(2, Checks.loaded("S11p0000p1000m00a00m00b00").simulate(0, 9));
        CrossedSheet many = Checks.loaded("S99p0000p1000");
        for (int place = 0; place < 161; place++) {
            many.write(place / 2 % 9, place / 18, 0, 0, 0);
        }
        int answer = many.simulate(17, 99);
        Checks.isTrue(answer == 161 || answer == 162);
    }
}
