/** What "Terms" says of actions and exceptions, and the promises 13 to 20. */
final class ActionEdges {
    static final Runnable[] ALL = {ActionEdges::textSection, ActionEdges::section, ActionEdges::state,
        ActionEdges::isAction, ActionEdges::rememberedBefore, ActionEdges::atMost14, ActionEdges::noActions,
        ActionEdges::outOfBounds, ActionEdges::outOfRange, ActionEdges::wrongState, ActionEdges::namedFirst,
        ActionEdges::nothingChanged, ActionEdges::write, ActionEdges::writeBounds, ActionEdges::erase,
        ActionEdges::eraseBounds, ActionEdges::decide, ActionEdges::decideBounds, ActionEdges::setLetter,
        ActionEdges::setLetterBounds, ActionEdges::setMargin, ActionEdges::setGap, ActionEdges::turn,
        ActionEdges::turnReturns, ActionEdges::undo};
    private static final Checks.Call[] ACTIONS = {x -> x.write(0, 0, 1, 0, 0), x -> x.write(2, 1, 26, 3, 8),
        x -> x.erase(1, 0, 0), x -> x.erase(1, 0, 1), x -> x.erase(2, 0, 0), x -> x.decide(1, 1, 0, 1),
        x -> x.decide(1, 0, 1, 2), x -> x.setLetter(0, 1, 5, 1), x -> x.setLetter(1, 0, 0, 0), x -> x.setMargin(0),
        x -> x.setGap(3), CrossedSheet::turn};
    private static final Checks.Call[] WITHOUT_EFFECT = {x -> x.setMargin(4), x -> x.setGap(1),
        x -> x.setLetter(0, 0, 2, 0), x -> x.setLetter(1, 3, 7, 1), x -> x.decide(1, 0, 1, 0),
        x -> x.decide(1, 1, 0, 2)};

    private ActionEdges() {
    }

    private static void textSection() {
        Checks.says("Terms", "Ahead of the calls `append`, `clearText`, `errorPosition`, `load` the interface"
            + " says: ---- text.");
        CrossedSheet x = Situations.used();
        x.append('v');
        x.errorPosition();
        x.clearText();
        Checks.is(Views.everything(Situations.used()), Views.everything(x));
        Checks.is(4, Checks.remembered(x));
    }

    private static void section() {
        Checks.says("Terms", "Ahead of the calls `write`, `erase`, `decide`, `setLetter`, `setMargin`, `setGap`,"
            + " `turn`, `undo` the interface says: ---- actions.");
        for (Checks.Call action : ACTIONS) {
            CrossedSheet x = Situations.used();
            action.on(x);
            Checks.isTrue(!Views.state(x).equals(Views.state(Situations.used())));
        }
    }

    private static void state() {
        Checks.says("Terms", "The methods in the section \"actions\" change the state, which consists of"
            + " everything but the text and the save slots.");
        for (Checks.Call action : ACTIONS) {
            CrossedSheet x = Situations.used();
            action.on(x);
            Checks.is(Checks.NONE, x.errorPosition());
            Checks.is(Situations.TEXT.length(), x.clearText());
            Checks.fails(Checks.STATE, x, s -> s.restore(1));
            Checks.is(7, x.restore(0));
            CrossedSheet saved = Situations.used();
            saved.restore(0);
            Checks.is(Views.everything(saved), Views.everything(x));
        }
        CrossedSheet y = new CrossedSheet();
        y.setMargin(7);
        y.append('S');
        y.save(1);
        y.undo();
        Checks.is(1, y.errorPosition());
        Checks.is(0, y.restore(1));
        Checks.is(7, y.about(5));
        Checks.is(1, y.clearText());
    }

    private static void isAction() {
        Checks.says("Terms", "Each call of one of them that does not throw an exception is an action, also if"
            + " nothing becomes different (undo is none).");
        for (Checks.Call action : ACTIONS) {
            CrossedSheet x = Situations.used();
            action.on(x);
            Checks.is(5, Checks.remembered(x));
        }
        for (Checks.Call action : WITHOUT_EFFECT) {
            CrossedSheet x = Situations.used();
            action.on(x);
            Checks.is(Views.everything(Situations.used()), Views.everything(x));
            Checks.is(5, Checks.remembered(x));
        }
        CrossedSheet undone = Situations.used();
        Checks.is(3, undone.undo());
        Checks.is(2, undone.undo());
        Checks.is(2, Checks.remembered(undone));
        CrossedSheet x = Situations.used();
        Checks.fails(Checks.ARGUMENT, x, s -> s.setMargin(10));
        Checks.is(4, Checks.remembered(x));
    }

    private static void rememberedBefore() {
        Checks.says("Terms", "Before each action, the state is remembered.");
        for (Checks.Call action : ACTIONS) {
            isTakenBack(action);
        }
        for (Checks.Call action : WITHOUT_EFFECT) {
            isTakenBack(action);
        }
        CrossedSheet all = Checks.loaded("S22m00a02m00b36m11c15");
        Checks.Call[] actions = {x -> x.write(1, 0, 1, 0, 0), x -> x.erase(0, 0, 0), x -> x.decide(1, 1, 0, 1),
            x -> x.setLetter(0, 1, 5, 1), x -> x.setMargin(0), x -> x.setGap(3), CrossedSheet::turn};
        String[] before = new String[actions.length];
        for (int i = 0; i < actions.length; i++) {
            before[i] = Views.state(all);
            actions[i].on(all);
        }
        for (int i = actions.length - 1; i >= 0; i--) {
            Checks.is(i, all.undo());
            Checks.is(before[i], Views.state(all));
        }
    }

    /** After the action and undo, all is as before. */
    private static void isTakenBack(Checks.Call action) {
        for (Views.View view : Views.ALL) {
            CrossedSheet x = Situations.used();
            action.on(x);
            Checks.is(4, x.undo());
            Checks.is(view.of(Situations.used()), view.of(x));
        }
    }

    private static void atMost14() {
        Checks.says("Terms", "At most 14 states are remembered; when one more is remembered, the oldest one is"
            + " forgotten.");
        for (int actions = 0; actions <= 60; actions++) {
            CrossedSheet x = new CrossedSheet();
            for (int i = 0; i < actions; i++) {
                x.setLetter(0, i / 9 % 4, i % 9, 0);
            }
            int kept = actions < 14 ? actions : 14;
            for (int left = kept - 1; left >= 0; left--) {
                Checks.is(left, x.undo());
                int last = actions - kept + left - 1;
                Checks.is(last < 0 ? 20 : last / 9 % 4 * 100 + last % 9 * 10, Checks.pen(x, 0));
            }
            Checks.fails(Checks.STATE, x, CrossedSheet::undo);
        }
        CrossedSheet mixed = new CrossedSheet();
        for (int i = 0; i < 20; i++) {
            mixed.setMargin(i % 10);
        }
        for (int i = 0; i < 5; i++) {
            mixed.undo();
        }
        Checks.is(4, mixed.about(5));
        for (int i = 0; i < 7; i++) {
            mixed.setGap(1 + i % 3);
        }
        Checks.is(13, mixed.undo());
        for (int left = 12; left >= 7; left--) {
            Checks.is(left, mixed.undo());
        }
        Checks.is(2, mixed.about(6));
        for (int left = 6; left >= 0; left--) {
            Checks.is(left, mixed.undo());
        }
        Checks.is(7, mixed.about(5));
        Checks.fails(Checks.STATE, mixed, CrossedSheet::undo);
    }

    private static void noActions() {
        Checks.says("Terms", "load and restore are not actions.");
        CrossedSheet x = Situations.bothSaved();
        x.restore(0);
        Checks.fails(Checks.STATE, x, CrossedSheet::undo);
        x.setMargin(1);
        x.restore(1);
        Checks.is(0, Checks.remembered(x));
        CrossedSheet y = Situations.used();
        y.load();
        Checks.fails(Checks.STATE, y, CrossedSheet::undo);
        y.load();
        Checks.is(0, Checks.remembered(y));
    }

    private static void outOfBounds() {
        Checks.says("Terms", "IndexOutOfBoundsException means that a cell, a mark, a letter or a word does not"
            + " exist, or that a save slot is not 0 or 1.");
        CrossedSheet x = Situations.used();
        for (Checks.Call call : new Checks.Call[] {s -> s.marks(3, 0), s -> s.mark(1, 0, 2, 0), s -> s.letter(2, 0),
            s -> s.sign(0, 2, 0), s -> s.save(2), s -> s.restore(2), s -> s.save(-1), s -> s.restore(-1)}) {
            Checks.fails(Checks.BOUNDS, x, call);
        }
    }

    private static void outOfRange() {
        Checks.says("Terms", "IllegalArgumentException means that another argument is out of its range.");
        CrossedSheet x = Situations.used();
        for (Checks.Call call : new Checks.Call[] {s -> s.append(256), s -> s.about(10), s -> s.letter(0, 5),
            s -> s.mark(1, 0, 0, 8), s -> s.sign(0, 0, -1), s -> s.write(0, 0, 27, 0, 0), s -> s.decide(1, 1, 0, 3),
            s -> s.setLetter(0, 0, 0, 2), s -> s.setMargin(10), s -> s.setGap(0), s -> s.find(0, 1, 27),
            s -> s.count(0, 27), s -> s.wordsWith(0, 4), s -> s.runScript(4, 0), s -> s.simulate(0, 0)}) {
            Checks.fails(Checks.ARGUMENT, x, call);
        }
    }

    private static void wrongState() {
        Checks.says("Terms", "IllegalStateException means what the method says.");
        Checks.fails(Checks.STATE, Situations.fullText(), s -> s.append('S'));
        Checks.fails(Checks.STATE, Situations.usedWithoutSheet(), CrossedSheet::load);
        Checks.fails(Checks.STATE, Situations.used(), s -> s.write(1, 0, 0, 0, 0));
        Checks.fails(Checks.STATE, Situations.used(), s -> s.decide(1, 0, 0, 0));
        Checks.fails(Checks.STATE, Situations.nothingRemembered(), CrossedSheet::undo);
        Checks.fails(Checks.STATE, Situations.used(), s -> s.restore(1));
    }

    private static void namedFirst() {
        Checks.says("Terms", "If several exceptions apply to a call, the one that its description names first is"
            + " thrown.");
        Checks.fails(Checks.ARGUMENT, Situations.fullText(), s -> s.append(256));
        Checks.fails(Checks.ARGUMENT, Situations.fullText(), s -> s.append(-1));
        CrossedSheet x = Situations.used();
        for (Checks.Call call : new Checks.Call[] {s -> s.letter(2, 5), s -> s.letter(-1, -1),
            s -> s.mark(3, 0, 0, 8), s -> s.mark(1, 2, 0, -1), s -> s.mark(1, 0, 2, 8), s -> s.mark(0, 0, 0, 8),
            s -> s.sign(2, 0, -1), s -> s.sign(0, 2, -1), s -> s.sign(1, -1, -1), s -> s.write(3, 0, 27, 0, 0),
            s -> s.write(0, 2, 0, 4, 0),
            s -> s.write(-1, 0, 0, 0, 9), s -> s.write(0, -1, -1, -1, -1), s -> s.decide(3, 0, 0, 3),
            s -> s.decide(0, 2, 0, -1), s -> s.decide(1, 1, 1, 3), s -> s.decide(0, 0, 0, 3),
            s -> s.decide(2, 0, 1, 0), s -> s.setLetter(2, 4, 0, 0), s -> s.setLetter(-1, 0, 9, 0),
            s -> s.setLetter(2, 0, 0, 2), s -> s.find(2, 0, 0), s -> s.find(-1, 1, 27), s -> s.find(2, 9, -1),
            s -> s.count(2, 27),
            s -> s.count(-1, -1), s -> s.wordsWith(2, 0), s -> s.wordsWith(-1, 4), s -> s.restore(2),
            s -> s.restore(-1)}) {
            Checks.fails(Checks.BOUNDS, x, call);
        }
        for (int k = 0; k < 2; k++) {
            int letter = k;
            Checks.refusedIn(() -> aloneDecided(letter), Checks.BOUNDS, s -> s.decide(0, 0, 1, letter));
        }
        for (Checks.Call call : new Checks.Call[] {s -> s.write(1, 0, 27, 0, 0), s -> s.write(1, 0, -1, 0, 0),
            s -> s.write(1, 0, 0, 4, 0), s -> s.write(1, 0, 0, -1, 0), s -> s.write(1, 0, 0, 0, 9),
            s -> s.write(1, 0, 0, 0, -1), s -> s.decide(1, 0, 0, 3), s -> s.decide(1, 0, 0, -1)}) {
            Checks.fails(Checks.ARGUMENT, x, call);
        }
    }

    private static void nothingChanged() {
        Checks.says("Terms", "A call that throws an exception changes nothing.");
        Checks.refusedIn(Situations::fullOfStates, Checks.ARGUMENT, x -> x.setMargin(10));
        Checks.refusedIn(Situations::fullOfStates, Checks.ARGUMENT, x -> x.setGap(4));
        Checks.refusedIn(Situations::fullOfStates, Checks.ARGUMENT, x -> x.setLetter(0, 1, 1, 2));
        Checks.refusedIn(Situations::fullOfStates, Checks.STATE, x -> x.write(0, 0, 0, 0, 0));
        Checks.refusedIn(Situations::fullOfStates, Checks.ARGUMENT, x -> x.write(1, 0, 0, 0, 9));
        Checks.refusedIn(Situations::fullOfStates, Checks.BOUNDS, x -> x.erase(1, 0, 0));
        Checks.refusedIn(Situations::fullOfStates, Checks.ARGUMENT, x -> x.decide(0, 0, 1, 3));
        Checks.refusedIn(Situations::fullOfStates, Checks.STATE, x -> x.restore(0));
        Checks.refusedIn(Situations::bothSaved, Checks.BOUNDS, x -> x.save(2));
        Checks.refusedIn(Situations::bothSaved, Checks.BOUNDS, x -> x.restore(2));
    }

    private static void write() {
        Checks.says("Promise 13", "Writes a mark.");
        CrossedSheet x = Situations.used();
        x.write(0, 0, 9, 1, 8);
        Checks.is("3x2 v4 g1 p20 p371 m00,9,1,8,-9 m01,26,0,2,-9 m10,1,0,2,-9 m10,23,3,6,0 m11,24,1,5,-9"
            + " m20,3,0,3,-9 m21,2,3,6,-9", Views.state(x));
        Checks.says("Promise 13", "`x`: column");
        CrossedSheet wide = Checks.loaded("S91");
        for (int column = 0; column < 9; column++) {
            wide.write(column, 0, column, 0, 2);
            Checks.is(column, wide.mark(column, 0, 0, 0));
        }
        Checks.says("Promise 13", "`y`: row");
        CrossedSheet high = Checks.loaded("S19");
        for (int row = 0; row < 9; row++) {
            high.write(0, row, row, 0, 2);
            Checks.is(row, high.mark(0, row, 0, 0));
        }
        Checks.says("Promise 13", "`sign`: 0 to 26");
        for (int sign = 0; sign <= 26; sign++) {
            CrossedSheet y = new CrossedSheet();
            y.write(5, 5, sign, 0, 2);
            Checks.is(sign, y.mark(5, 5, 0, 0));
        }
        Checks.says("Promise 13", "`ink`: 0 to 3");
        for (int ink = 0; ink <= 3; ink++) {
            CrossedSheet y = new CrossedSheet();
            y.write(5, 5, 0, ink, 2);
            Checks.is(ink, y.mark(5, 5, 0, 1));
        }
        Checks.says("Promise 13", "`slant`: 0 to 8");
        for (int slant = 0; slant <= 8; slant++) {
            CrossedSheet y = new CrossedSheet();
            y.write(5, 5, 0, 0, slant);
            Checks.is(slant, y.mark(5, 5, 0, 2));
        }
        Checks.says("Promise 13", "Returns its number in the cell.");
        CrossedSheet y = new CrossedSheet();
        Checks.is(0, y.write(0, 0, 1, 0, 2));
        Checks.is(1, y.write(0, 0, 2, 0, 2));
        y.erase(0, 0, 0);
        Checks.is(1, y.write(0, 0, 3, 0, 2));
        Checks.is(2, y.mark(0, 0, 0, 0));
        Checks.is(3, y.mark(0, 0, 1, 0));
        Checks.is(0, y.write(0, 1, 3, 0, 2));
    }

    private static void writeBounds() {
        Checks.says("Promise 13", "Throws `IndexOutOfBoundsException` if there is no such cell");
        for (int column : Checks.outside(0, 2)) {
            Checks.refused(Checks.BOUNDS, x -> x.write(column, 0, 0, 0, 0));
        }
        for (int row : Checks.outside(0, 1)) {
            Checks.refused(Checks.BOUNDS, x -> x.write(0, row, 0, 0, 0));
        }
        Checks.says("Promise 13", "Throws `IllegalArgumentException` if another argument is out of range");
        for (int sign : Checks.outside(0, 26)) {
            Checks.refused(Checks.ARGUMENT, x -> x.write(0, 0, sign, 0, 0));
        }
        for (int ink : Checks.outside(0, 3)) {
            Checks.refused(Checks.ARGUMENT, x -> x.write(0, 0, 0, ink, 0));
        }
        for (int slant : Checks.outside(0, 8)) {
            Checks.refused(Checks.ARGUMENT, x -> x.write(0, 0, 0, 0, slant));
        }
        Checks.says("Promise 13", "Throws `IllegalStateException` if the cell has two marks");
        Checks.refused(Checks.STATE, x -> x.write(1, 0, 0, 0, 0));
        Checks.refused(Checks.STATE, x -> x.write(1, 0, 26, 3, 8));
        Checks.is(1, Situations.used().write(1, 1, 0, 0, 0));
    }

    private static void erase() {
        Checks.says("Promise 14", "Erases a mark; if the mark 0 is erased, a mark 1 gets the number 0.");
        String others = "3x2 v4 g1 p20 p371 m01,26,0,2,-9%s m11,24,1,5,-9 m20,3,0,3,-9 m21,2,3,6,-9";
        CrossedSheet first = Situations.used();
        first.erase(1, 0, 0);
        Checks.is(String.format(others, " m10,23,3,6,0"), Views.state(first));
        first.erase(1, 0, 0);
        Checks.is(String.format(others, ""), Views.state(first));
        CrossedSheet second = Situations.used();
        second.erase(1, 0, 1);
        Checks.is(String.format(others, " m10,1,0,2,-9"), Views.state(second));
        Checks.is(1, second.erase(1, 0, 0));
        Checks.is(String.format(others, ""), Views.state(second));
        second.write(1, 0, 0, 0, 0);
        second.write(1, 0, 1, 0, 0);
        Checks.is(Checks.NONE, second.mark(1, 0, 0, 3));
        Checks.is(Checks.NONE, second.mark(1, 0, 1, 3));
        Checks.says("Promise 14", "`x`: column");
        Checks.is(25, Checks.loaded("S92m80z02").erase(8, 0, 0));
        Checks.says("Promise 14", "`y`: row");
        Checks.is(24, Checks.loaded("S29m08y02").erase(0, 8, 0));
        Checks.says("Promise 14", "`i`: mark");
        Checks.is(23, Situations.used().erase(1, 0, 1));
        Checks.says("Promise 14", "Returns its sign.");
        for (int sign = 0; sign <= 26; sign++) {
            CrossedSheet x = new CrossedSheet();
            x.write(1, 1, sign, 3, 8);
            x.write(1, 1, 26 - sign, 3, 8);
            Checks.is(26 - sign, x.erase(1, 1, 1));
            x.write(1, 1, 26 - sign, 3, 8);
            Checks.is(sign, x.erase(1, 1, 0));
            Checks.is(26 - sign, x.erase(1, 1, 0));
        }
    }

    private static void eraseBounds() {
        Checks.says("Promise 14", "Throws `IndexOutOfBoundsException` if there is no such cell or mark");
        for (int column : Checks.outside(0, 2)) {
            Checks.refused(Checks.BOUNDS, x -> x.erase(column, 0, 0));
        }
        for (int row : Checks.outside(0, 1)) {
            Checks.refused(Checks.BOUNDS, x -> x.erase(1, row, 0));
        }
        for (int i : Checks.outside(0, 1)) {
            Checks.refused(Checks.BOUNDS, x -> x.erase(1, 0, i));
        }
        for (int i : Checks.outside(0, 0)) {
            Checks.refused(Checks.BOUNDS, x -> x.erase(2, 0, i));
        }
        Checks.refused(Checks.BOUNDS, x -> x.erase(0, 0, 0));
    }

    private static void decide() {
        Checks.says("Promise 15", "Decides to which letter a mark belongs, or takes such a decision back.");
        CrossedSheet x = Checks.loaded("S21m00a02m00b02m10c15");
        x.decide(1, 0, 0, 0);
        Checks.is(0, x.mark(1, 0, 0, 4));
        x.decide(1, 0, 0, 1);
        Checks.is(1, x.mark(1, 0, 0, 4));
        x.decide(1, 0, 0, 2);
        Checks.is(Checks.NONE, x.mark(1, 0, 0, 4));
        Checks.is(Checks.NONE, x.mark(1, 0, 0, 3));
        Checks.says("Promise 15", "`x`: column");
        Checks.is(0, Checks.loaded("S92m80z15").decide(8, 0, 0, 0));
        Checks.says("Promise 15", "`y`: row");
        Checks.is(0, Checks.loaded("S29m08y15").decide(0, 8, 0, 1));
        Checks.says("Promise 15", "`i`: mark");
        x.decide(0, 0, 1, 0);
        Checks.is(0, x.mark(0, 0, 1, 3));
        Checks.is(Checks.NONE, x.mark(0, 0, 0, 3));
        Checks.says("Promise 15", "`k`: letter; 2: it is not decided any more");
        for (int k = 0; k <= 2; k++) {
            CrossedSheet y = Checks.loaded("S11m00a15");
            y.decide(0, 0, 0, k);
            Checks.is(k == 2 ? Checks.NONE : k, y.mark(0, 0, 0, 3));
        }
        Checks.says("Promise 15", "Returns the number of doubtful marks then.");
        CrossedSheet y = Checks.loaded("S31m00a02m00b02m10c15m20d36");
        Checks.is(3, y.about(3));
        Checks.is(3, y.decide(2, 0, 0, 0));
        Checks.is(1, y.decide(0, 0, 1, 1));
        Checks.is(1, y.decide(0, 0, 0, 0));
        Checks.is(0, y.decide(1, 0, 0, 0));
        Checks.is(0, y.decide(0, 0, 1, 2));
        Checks.is(2, y.decide(0, 0, 0, 2));
        Checks.is(3, y.decide(1, 0, 0, 2));
    }

    private static void decideBounds() {
        Checks.says("Promise 15", "Throws `IndexOutOfBoundsException` if there is no such cell or mark");
        for (int column : Checks.outside(0, 2)) {
            Checks.refused(Checks.BOUNDS, x -> x.decide(column, 0, 0, 0));
        }
        for (int row : Checks.outside(0, 1)) {
            Checks.refused(Checks.BOUNDS, x -> x.decide(1, row, 0, 2));
        }
        for (int i : Checks.outside(0, 1)) {
            Checks.refused(Checks.BOUNDS, x -> x.decide(1, 0, i, 1));
        }
        for (int i : Checks.outside(0, 0)) {
            Checks.refused(Checks.BOUNDS, x -> x.decide(2, 0, i, 2));
        }
        Checks.refused(Checks.BOUNDS, x -> x.decide(0, 0, 0, 0));
        Checks.says("Promise 15", "Throws `IllegalArgumentException` if k is not 0 to 2");
        for (int k : Checks.outside(0, 2)) {
            Checks.refused(Checks.ARGUMENT, x -> x.decide(1, 0, 0, k));
            Checks.refused(Checks.ARGUMENT, x -> x.decide(1, 1, 0, k));
        }
        Checks.refused(Checks.ARGUMENT, x -> x.decide(1, 0, 0, Checks.NONE));
        Checks.says("Promise 15", "Throws `IllegalStateException` if the other mark of the cell is decided for"
            + " the letter k");
        Checks.refused(Checks.STATE, x -> x.decide(1, 0, 0, 0));
        for (int place = 0; place < 4; place++) {
            int i = place / 2;
            int k = place % 2;
            Checks.refusedIn(() -> pairDecided(i, k), Checks.STATE, x -> x.decide(0, 0, 1 - i, k));
            Checks.is(0, pairDecided(i, k).decide(0, 0, 1 - i, 1 - k));
            Checks.is(0, pairDecided(i, k).decide(0, 0, 1 - i, 2));
            Checks.is(0, pairDecided(i, k).decide(0, 0, i, k));
            Checks.is(0, pairDecided(i, k).decide(0, 0, i, 1 - k));
            CrossedSheet alone = pairDecided(i, k);
            alone.erase(0, 0, i);
            Checks.is(0, alone.decide(0, 0, 0, k));
        }
    }

    /** A cell whose mark i is decided for the letter k. */
    private static CrossedSheet pairDecided(int i, int k) {
        CrossedSheet x = Checks.loaded("S11m00a02m00b02");
        x.decide(0, 0, i, k);
        return x;
    }

    /** A cell whose only mark is decided for the letter k. */
    private static CrossedSheet aloneDecided(int k) {
        CrossedSheet x = Checks.loaded("S11m00a02");
        x.decide(0, 0, 0, k);
        return x;
    }

    private static void setLetter() {
        Checks.says("Promise 16", "Changes a letter.");
        CrossedSheet x = Situations.used();
        x.setLetter(0, 1, 4, 1);
        Checks.is("3x2 v4 g1 p141 p371 m01,26,0,2,-9 m10,1,0,2,-9 m10,23,3,6,0 m11,24,1,5,-9 m20,3,0,3,-9"
            + " m21,2,3,6,-9", Views.state(x));
        Checks.says("Promise 16", "`k`: letter");
        x.setLetter(1, 2, 5, 0);
        Checks.is(141, Checks.pen(x, 0));
        Checks.is(250, Checks.pen(x, 1));
        Checks.says("Promise 16", "`ink`: 0 to 3");
        for (int ink = 0; ink <= 3; ink++) {
            x.setLetter(0, ink, 4, 1);
            Checks.is(100 * ink + 41, Checks.pen(x, 0));
        }
        Checks.says("Promise 16", "`slant`: 0 to 8");
        for (int slant = 0; slant <= 8; slant++) {
            x.setLetter(1, 2, slant, 0);
            Checks.is(200 + 10 * slant, Checks.pen(x, 1));
        }
        Checks.says("Promise 16", "`way`: 0 or 1");
        for (int way = 0; way <= 1; way++) {
            x.setLetter(1, 0, 0, way);
            Checks.is(way, Checks.pen(x, 1));
        }
        Checks.says("Promise 16", "Returns the number of doubtful marks then.");
        CrossedSheet y = Checks.loaded("S41m00a02m10b15m20c36m30d15m30e15");
        Checks.is(3, y.about(3));
        Checks.is(2, y.setLetter(0, 1, 5, 0));
        Checks.is(5, y.setLetter(1, 1, 5, 0));
        Checks.is(2, y.setLetter(0, 0, 2, 1));
        y.decide(3, 0, 0, 0);
        Checks.is(0, y.setLetter(0, 0, 2, 0));
    }

    private static void setLetterBounds() {
        Checks.says("Promise 16", "Throws `IndexOutOfBoundsException` if there is no such letter");
        for (int k : Checks.outside(0, 1)) {
            Checks.refused(Checks.BOUNDS, x -> x.setLetter(k, 1, 1, 1));
        }
        Checks.says("Promise 16", "Throws `IllegalArgumentException` if another argument is out of range");
        for (int k = 0; k < 2; k++) {
            int letter = k;
            for (int ink : Checks.outside(0, 3)) {
                Checks.refused(Checks.ARGUMENT, x -> x.setLetter(letter, ink, 1, 1));
            }
            for (int slant : Checks.outside(0, 8)) {
                Checks.refused(Checks.ARGUMENT, x -> x.setLetter(letter, 1, slant, 1));
            }
            for (int way : Checks.outside(0, 1)) {
                Checks.refused(Checks.ARGUMENT, x -> x.setLetter(letter, 1, 1, way));
            }
        }
    }

    private static void setMargin() {
        Checks.says("Promise 17", "Changes the margin.");
        CrossedSheet x = Situations.used();
        x.setMargin(9);
        Checks.is(Views.state(Situations.used()).replace("v4", "v9"), Views.state(x));
        Checks.says("Promise 17", "`margin`: 0 to 9");
        for (int margin = 0; margin <= 9; margin++) {
            x.setMargin(margin);
            Checks.is(margin, x.about(5));
        }
        Checks.says("Promise 17", "Returns the previous margin.");
        CrossedSheet y = new CrossedSheet();
        int previous = 2;
        for (int margin : new int[] {0, 0, 9, 9, 1, 8, 2, 0}) {
            Checks.is(previous, y.setMargin(margin));
            previous = margin;
        }
        Checks.says("Promise 17", "Throws `IllegalArgumentException` if margin is out of range");
        for (int margin : Checks.outside(0, 9)) {
            Checks.refused(Checks.ARGUMENT, s -> s.setMargin(margin));
        }
    }

    private static void setGap() {
        Checks.says("Promise 18", "Changes the gap.");
        CrossedSheet x = Situations.used();
        x.setGap(3);
        Checks.is(Views.state(Situations.used()).replace("g1", "g3"), Views.state(x));
        Checks.says("Promise 18", "`gap`: 1 to 3");
        CrossedSheet read = Checks.loaded("S91m00a02m20b02m50c02");
        for (int gap = 1; gap <= 3; gap++) {
            read.setGap(gap);
            Checks.is(gap, read.about(6));
            Checks.is(gap == 1 ? "a b c" : gap == 2 ? "ab c" : "abc", Checks.words(read, 0));
        }
        Checks.says("Promise 18", "Returns the previous gap.");
        CrossedSheet y = new CrossedSheet();
        int previous = 2;
        for (int gap : new int[] {2, 1, 1, 3, 3, 2, 1}) {
            Checks.is(previous, y.setGap(gap));
            previous = gap;
        }
        Checks.says("Promise 18", "Throws `IllegalArgumentException` if gap is out of range");
        for (int gap : Checks.outside(1, 3)) {
            Checks.refused(Checks.ARGUMENT, s -> s.setGap(gap));
        }
    }

    private static void turn() {
        Checks.says("Promise 19", "Turns the sheet by a quarter: W becomes H and H becomes W,");
        for (int w = 1; w <= 9; w++) {
            for (int h = 1; h <= 9; h++) {
                CrossedSheet x = Checks.loaded("S" + w + h);
                x.turn();
                Checks.is(h, x.about(0));
                Checks.is(w, x.about(1));
            }
        }
        Checks.says("Promise 19", "the marks of the cell (x, y) come to the cell (H - 1 - y, x) with the H before"
            + " the turn,");
        int[][] sizes = {{1, 1}, {9, 1}, {1, 9}, {9, 9}, {3, 2}, {2, 3}, {8, 5}};
        for (int[] size : sizes) {
            for (int cell = 0; cell < size[0] * size[1]; cell++) {
                int cx = cell % size[0];
                int cy = cell / size[0];
                CrossedSheet x = Checks.loaded("S" + size[0] + size[1] + "m" + cx + cy + "h14m" + cx + cy + "i24");
                x.decide(cx, cy, 1, 0);
                x.turn();
                Checks.is(2, x.about(2));
                Checks.is(7, x.mark(size[1] - 1 - cy, cx, 0, 0));
                Checks.is(8, x.mark(size[1] - 1 - cy, cx, 1, 0));
                Checks.is(Checks.NONE, x.mark(size[1] - 1 - cy, cx, 0, 3));
                Checks.is(0, x.mark(size[1] - 1 - cy, cx, 1, 3));
            }
        }
        turnFull();
        Checks.says("Promise 19", "each slant of a mark and of a letter becomes 8 - slant,");
        for (int slant = 0; slant <= 8; slant++) {
            CrossedSheet x = Checks.loaded("S11p03" + slant + "0p11" + (8 - slant) + "0m00a2" + slant + "m00b1"
                + (8 - slant));
            x.turn();
            Checks.is("1x1 v2 g2 p3" + (8 - slant) + "1 p1" + slant + "1 m00,0,2," + (8 - slant) + ",-9 m00,1,1,"
                + slant + ",-9", Views.state(x));
        }
        Checks.says("Promise 19", "and the ways of both letters change to the other one.");
        for (int ways = 0; ways < 4; ways++) {
            CrossedSheet x = Checks.loaded("S11p000" + ways % 2 + "p100" + ways / 2);
            x.turn();
            Checks.is(1 - ways % 2, x.letter(0, 2));
            Checks.is(1 - ways / 2, x.letter(1, 2));
        }
        CrossedSheet round = Situations.used();
        for (int i = 0; i < 4; i++) {
            round.turn();
        }
        Checks.is(Views.everything(Situations.used()), Views.everything(round));
    }

    /** All cells of the largest sheet have two marks, so that no mark comes to a place that nobody looks at. */
    private static void turnFull() {
        CrossedSheet x = Checks.loaded("S99");
        for (int mark = 0; mark < 162; mark++) {
            x.write(mark / 18, mark / 2 % 9, mark % 27, mark / 27 % 4, 0);
        }
        x.turn();
        for (int mark = 0; mark < 162; mark++) {
            Checks.is(mark % 27, x.mark(8 - mark / 2 % 9, mark / 18, mark % 2, 0));
            Checks.is(mark / 27 % 4, x.mark(8 - mark / 2 % 9, mark / 18, mark % 2, 1));
        }
    }

    private static void turnReturns() {
        Checks.says("Promise 19", "Returns the number of words of both letters then.");
        Checks.is(0, new CrossedSheet().turn());
        Checks.is(1, Checks.loaded("S11m00a02").turn());
        Checks.is(1, Checks.loaded("S11m00a36").turn());
        Checks.is(2, Checks.loaded("S11m00a02m00b36").turn());
        Checks.is(0, Checks.loaded("S11m00a15").turn());
        // Before the turn "ab-" goes on with "c", after it nothing is cut.
        CrossedSheet x = Checks.loaded("S32m00a02m10b02m20-02m01c02m21y36g3");
        Checks.is(2, x.letter(0, 3) + x.letter(1, 3));
        Checks.is(3, x.turn());
        Checks.is(3, x.letter(0, 3) + x.letter(1, 3));
        Checks.is(3, x.turn());
        String line = "a.a.a.a.a";
        CrossedSheet most = WordEdges.drawn(0, 0, 1, line, line, line, line, line, line, line, line, line);
        for (int cell = 0; cell < 45; cell++) {
            most.write(cell / 9 * 2, cell % 9, 0, 3, 6);
        }
        most.setLetter(1, 3, 6, 0);
        Checks.is(90, most.turn());
    }

    private static void undo() {
        Checks.says("Promise 20", "Takes back the last action that is remembered.");
        CrossedSheet x = new CrossedSheet();
        x.setMargin(5);
        x.setMargin(6);
        x.undo();
        Checks.is(5, x.about(5));
        x.setMargin(7);
        x.undo();
        Checks.is(5, x.about(5));
        x.undo();
        Checks.is(2, x.about(5));
        Checks.says("Promise 20", "Returns how many states are still remembered.");
        for (int actions = 1; actions <= 17; actions++) {
            CrossedSheet y = new CrossedSheet();
            for (int i = 0; i < actions; i++) {
                y.setGap(1);
            }
            for (int left = (actions < 14 ? actions : 14) - 1; left >= 0; left--) {
                Checks.is(left, y.undo());
            }
        }
        Checks.says("Promise 20", "Throws `IllegalStateException` if none is remembered");
        Checks.refusedIn(CrossedSheet::new, Checks.STATE, CrossedSheet::undo);
        Checks.refusedIn(Situations::nothingRemembered, Checks.STATE, CrossedSheet::undo);
        Checks.refusedIn(() -> Checks.loaded(Situations.TEXT), Checks.STATE, CrossedSheet::undo);
        Checks.refusedIn(ActionEdges::allTakenBack, Checks.STATE, CrossedSheet::undo);
        Checks.refusedIn(ActionEdges::restored, Checks.STATE, CrossedSheet::undo);
    }

    private static CrossedSheet allTakenBack() {
        CrossedSheet x = Situations.fullOfStates();
        Checks.remembered(x);
        return x;
    }

    private static CrossedSheet restored() {
        CrossedSheet x = Situations.bothSaved();
        x.restore(1);
        return x;
    }
}
