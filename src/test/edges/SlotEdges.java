/** The promises 30 and 31: save slots. */
final class SlotEdges {
    static final Runnable[] ALL = {SlotEdges::section, SlotEdges::save, SlotEdges::saveReturns,
        SlotEdges::restore, SlotEdges::restoreKeeps, SlotEdges::restoreBounds};

    private SlotEdges() {
    }

    private static void section() {
        Checks.says("Terms", "Ahead of the calls `save`, `restore` the interface says: ---- save slots.");
        CrossedSheet x = Situations.used();
        x.save(0);
        x.save(1);
        Checks.is(Views.everything(Situations.used()), Views.everything(x));
        Checks.is(4, Checks.remembered(x));
    }

    private static void save() {
        Checks.says("Promise 30", "Stores the present state in a save slot.");
        for (int slot = 0; slot < 2; slot++) {
            CrossedSheet x = Situations.used();
            x.save(slot);
            String saved = Views.everything(Situations.used());
            x.turn();
            x.setMargin(0);
            x.setGap(3);
            x.setLetter(0, 3, 8, 0);
            x.setLetter(1, 0, 0, 0);
            x.restore(slot);
            Checks.is(saved, Views.everything(x));
        }
        CrossedSheet twice = Situations.used();
        twice.save(1);
        twice.erase(2, 0, 0);
        twice.save(1);
        String second = Views.everything(twice);
        twice.undo();
        twice.restore(1);
        Checks.is(second, Views.everything(twice));
        CrossedSheet x = Situations.used();
        x.save(1);
        for (Views.View view : new Views.View[] {Views.ALL[0], Views.ALL[1], Views.ALL[2], Views.ALL[4],
            Views.ALL[5]}) {
            CrossedSheet y = Situations.used();
            y.save(1);
            Checks.is(view.of(Situations.used()), view.of(y));
        }
        Checks.says("Promise 30", "`slot`: 0 or 1");
        CrossedSheet both = new CrossedSheet();
        both.save(0);
        both.write(0, 0, 0, 0, 2);
        both.save(1);
        Checks.is(0, both.restore(0));
        Checks.is(1, both.restore(1));
        Checks.is(0, both.restore(0));
        CrossedSheet one = new CrossedSheet();
        one.save(1);
        Checks.fails(Checks.STATE, one, y -> y.restore(0));
        Checks.is(0, one.restore(1));
    }

    private static void saveReturns() {
        Checks.says("Promise 30", "Returns the number of marks.");
        CrossedSheet x = Checks.loaded("S99");
        for (int marks = 0; marks <= 162; marks++) {
            Checks.is(marks, x.save(marks % 2));
            if (marks < 162) {
                x.write(marks / 2 % 9, marks / 18, 0, 1, 5);
            }
        }
        Checks.says("Promise 30", "Throws `IndexOutOfBoundsException` if there is no such save slot");
        for (int slot : Checks.outside(0, 1)) {
            Checks.refused(Checks.BOUNDS, y -> y.save(slot));
            Checks.refusedIn(Situations::bothSaved, Checks.BOUNDS, y -> y.save(slot));
        }
    }

    private static void restore() {
        Checks.says("Promise 31", "Replaces the state by the one in a save slot, and forgets all remembered"
            + " states.");
        CrossedSheet x = Situations.used();
        x.restore(0);
        Checks.is("3x2 v3 g1 p20 p371 m00,0,0,2,-9 m01,26,0,2,-9 m10,1,0,2,-9 m10,23,3,6,-9 m11,24,1,5,-9"
            + " m20,3,0,3,-9 m21,2,3,6,-9", Views.state(x));
        Checks.fails(Checks.STATE, x, CrossedSheet::undo);
        Checks.is(Checks.NONE, x.errorPosition());
        Checks.is(Situations.TEXT.length(), x.clearText());
        CrossedSheet y = Situations.fullOfStates();
        y.save(1);
        Checks.is(2, y.restore(1));
        Checks.fails(Checks.STATE, y, CrossedSheet::undo);
        y.setGap(1);
        Checks.is(0, y.undo());
        Checks.fails(Checks.STATE, y, CrossedSheet::undo);
        CrossedSheet other = new CrossedSheet();
        other.save(0);
        Checks.type(other, "S91m80a02");
        Checks.is(1, other.load());
        Checks.is(1, other.save(0));
        other.turn();
        other.restore(0);
        Checks.is("9x1 v2 g2 p20 p361 m80,0,0,2,-9", Views.state(other));
    }

    private static void restoreKeeps() {
        Checks.says("Promise 31", "The save slot keeps it.");
        for (int slot = 0; slot < 2; slot++) {
            CrossedSheet x = Situations.used();
            x.save(slot);
            String saved = Views.state(x);
            for (int times = 0; times < 3; times++) {
                x.restore(slot);
                Checks.is(saved, Views.state(x));
                x.erase(2, 0, 0);
                x.setLetter(0, 1, 1, 1);
                x.decide(1, 1, 0, 1);
                x.turn();
            }
        }
        Checks.says("Promise 31", "`slot`: 0 or 1");
        CrossedSheet x = Situations.bothSaved();
        Checks.is(7, x.restore(0));
        Checks.is(6, x.restore(1));
        Checks.says("Promise 31", "Returns the number of marks then.");
        CrossedSheet marks = Checks.loaded("S99");
        marks.save(0);
        for (int place = 0; place < 162; place++) {
            marks.write(place / 2 % 9, place / 18, 0, 1, 5);
        }
        marks.save(1);
        Checks.is(0, marks.restore(0));
        Checks.is(0, marks.about(2));
        Checks.is(162, marks.restore(1));
        Checks.is(162, marks.about(2));
    }

    private static void restoreBounds() {
        Checks.says("Promise 31", "Throws `IndexOutOfBoundsException` if there is no such save slot");
        for (int slot : Checks.outside(0, 1)) {
            Checks.refused(Checks.BOUNDS, x -> x.restore(slot));
            Checks.refusedIn(Situations::bothSaved, Checks.BOUNDS, x -> x.restore(slot));
        }
        Checks.says("Promise 31", "Throws `IllegalStateException` if nothing has been saved in it since the last"
            + " load");
        Checks.refused(Checks.STATE, x -> x.restore(1));
        Checks.refusedIn(Situations::nothingRemembered, Checks.STATE, x -> x.restore(0));
        for (int slot = 0; slot < 2; slot++) {
            int empty = slot;
            Checks.refusedIn(CrossedSheet::new, Checks.STATE, x -> x.restore(empty));
            Checks.refusedIn(SlotEdges::loadedAgain, Checks.STATE, x -> x.restore(empty));
        }
        CrossedSheet failed = Situations.used();
        failed.append('?');
        Checks.fails(Checks.STATE, failed, CrossedSheet::load);
        Checks.is(7, failed.restore(0));
        CrossedSheet saved = loadedAgain();
        saved.save(0);
        Checks.is(6, saved.restore(0));
        Checks.fails(Checks.STATE, saved, x -> x.restore(1));
    }

    private static CrossedSheet loadedAgain() {
        CrossedSheet x = Situations.bothSaved();
        x.load();
        return x;
    }
}
