import java.util.ArrayDeque;

/** The edges of section 5 of the terms and of promises 14 to 16 and 21: undo, save and restore. */
final class UndoEdges {
    private static final String STATE = "IllegalStateException";
    private static final String ARGUMENT = "IllegalArgumentException";
    private static final int MIN = Integer.MIN_VALUE;
    private static final int MAX = Integer.MAX_VALUE;

    /** The station of a new object is saved in slot 0. */
    private static final Start SAVED = Start.NEW.then(x -> x.save(0));

    /** Changes of every kind, each of which has an effect behind the ones before it, from SAVED on. */
    private static final Start.Run[] CHANGES = {x -> x.passCarts(1, 0, 9), x -> x.halveCounts(1), x -> x.setToll(1, 0),
        x -> x.setCostLimit(1, 4), x -> x.buildTree(1),
        x -> Parse.play(x, "pass south mule 7;toll coach 9;hours 1;halve north;"), x -> x.restore(0),
        x -> x.advanceClock(100), x -> Parse.load(x, Texts.setup(6, 8, 4)), x -> x.passCarts(3, 7, 999),
        x -> x.setToll(7, 99), x -> x.buildTree(3), x -> Parse.load(x, Parse.HEAD), x -> x.restore(0)};

    private static final String EMPTY_GATE = "tolls;ask a 1;cart c 3;cart d 4 a;gate g 0 23 9 1 2;gate h 0 23 0 0 0;";

    private UndoEdges() {
    }

    static void run() {
        everyChange();
        changesWithoutEffect();
        notChanges();
        eightChanges();
        ninthChange();
        undoAndChangeInTurns();
        noRedo();
        whatComesBack();
        wholeStationsComeBack();
        whatStays();
        savedStatesBehindLoad();
        refusedCalls();
        undo();
        save();
        restore();
        restoreAgain();
        undoableChanges();
    }

    private static Start changed(int changes) {
        return SAVED.then(x -> {
            for (int i = 0; i < changes; i++) {
                CHANGES[i].on(x);
            }
        });
    }

    private static Start undone(Start start, int undos) {
        return start.then(x -> {
            for (int i = 0; i < undos; i++) {
                x.undo();
            }
        });
    }

    private static void everyChange() {
        Doc.section(5, "Successful calls of load(), play(), passCarts(), buildTree(), halveCounts(), setToll(),");
        for (int i = 0; i < CHANGES.length; i++) {
            Start before = changed(i);
            Start behind = changed(i + 1);
            behind.answers("change " + i + " is one change", Math.min(8, i + 1), x -> x.undoableChanges());
            Check.same("change " + i + " has an effect", false, Seen.state(before).equals(Seen.state(behind)));
            behind.answers("change " + i + " can be undone", Math.min(7, i), x -> x.undo());
            Check.same("change " + i + " undone", Seen.state(before), Seen.state(undone(behind, 1)));
        }
    }

    private static void changesWithoutEffect() {
        Doc.section(5, "advanceClock() and restore() are changes, even if they have no effect.");
        Start start = Start.loaded(EMPTY_GATE).then(x -> x.save(1));
        Start.Run[] idle = {x -> Parse.load(x, EMPTY_GATE), x -> Parse.play(x, ""), x -> x.buildTree(0), x -> x.halveCounts(1),
            x -> x.setToll(1, 4), x -> x.setCostLimit(1, 0), x -> x.restore(1)};
        for (int i = 0; i < idle.length; i++) {
            Start behind = start.then(idle[i]);
            Check.same("no effect of " + i, Seen.state(start), Seen.state(behind));
            behind.answers(i + " is a change", 2, x -> x.undoableChanges());
            Check.same(i + " undone", Seen.state(start), Seen.state(undone(behind, 1)));
            Check.same(i + " and the one before undone", Seen.state(Start.NEW), Seen.state(undone(behind, 2)));
            // It takes the place of the oldest change.
            Start full = Start.loaded(EMPTY_GATE).then(x -> {
                x.save(1);
                for (int hours = 0; hours < 8; hours++) {
                    x.setToll(0, 50);
                    x.undo();
                    x.passCarts(0, 0, 1);
                }
            });
            Start.Run change = idle[i];
            full.then(change).answers(i + " is one of eight", 8, x -> x.undoableChanges());
            undone(full.then(change), 8).answers("the oldest kept of eight", 1, x -> x.cartsPassed());
        }
    }

    private static void notChanges() {
        Doc.about(15, "This is not a change.");
        SAVED.answers("save", 0, x -> x.undoableChanges());
        Doc.section(5, "Successful calls of load(), play(), passCarts(), buildTree(), halveCounts(), setToll(),");
        Start start = changed(5);
        Start.Run[] others = {x -> x.append(0, 0, 0, 0, 0), x -> Parse.feed(x, "hours 1;"), x -> Parse.load(x, "tolls"),
            x -> Parse.play(x, "hours 1"), x -> x.save(0), x -> x.save(1), x -> x.writeTree(0), x -> x.bestErrors(0, 3),
            x -> x.errorsWithout(0, 0), x -> x.sufficientLimit(0), x -> x.stalestGate(), x -> x.quickestGate(0),
            x -> x.inconsistencies(), x -> x.meanPathCost(0), x -> x.correctShare(), x -> x.outputByte(0)};
        for (int i = 0; i < others.length; i++) {
            Start behind = start.then(others[i]);
            behind.answers("call " + i, 5, x -> x.undoableChanges());
            Check.same("the state behind call " + i, Seen.state(start), Seen.state(behind));
            Check.same("undone behind call " + i, Seen.state(changed(4)), Seen.state(undone(behind, 1)));
        }
    }

    private static void eightChanges() {
        Doc.section(5, "The latest 8 changes can be undone, the latest first.");
        for (int changes = 1; changes <= CHANGES.length; changes++) {
            Start start = changed(changes);
            int kept = Math.min(8, changes);
            for (int undos = 1; undos <= kept; undos++) {
                Check.same(undos + " of " + changes + " undone", Seen.state(changed(changes - undos)),
                    Seen.state(undone(start, undos)));
            }
            undone(start, kept).refuses("no more than " + kept + " of " + changes, STATE, x -> x.undo());
        }
    }

    private static void ninthChange() {
        Doc.section(5, "A ninth change discards the oldest one.");
        changed(7).answers("seven", 7, x -> x.undoableChanges());
        changed(8).answers("eight", 8, x -> x.undoableChanges());
        changed(9).answers("nine", 8, x -> x.undoableChanges());
        changed(10).answers("ten", 8, x -> x.undoableChanges());
        Check.same("eight undone of eight", Seen.state(SAVED), Seen.state(undone(changed(8), 8)));
        Check.same("eight undone of nine", Seen.state(changed(1)), Seen.state(undone(changed(9), 8)));
        Check.same("eight undone of ten", Seen.state(changed(2)), Seen.state(undone(changed(10), 8)));
    }

    /** Changes (a letter c each) and undos in turns, with the clock as the state. */
    private static void undoAndChangeInTurns() {
        Doc.section(5, "The latest 8 changes can be undone, the latest first.");
        TollTrees x = new TollTrees();
        ArrayDeque<Integer> clocks = new ArrayDeque<>();
        int hours = 0;
        for (char turn : "cuccucccccccuuucccccuuuuuuuuccccccccccccccccccucuuccuuuuuuucccccccccuuuuuuuucucucuccu".toCharArray()) {
            if (turn == 'c') {
                clocks.addLast(x.clock());
                hours = hours % 97 + 1;
                x.advanceClock(hours);
            } else {
                int before = clocks.removeLast();
                Check.same("left to undo", Math.min(clocks.size(), 8), x.undo());
                Check.same("the clock before", before, x.clock());
            }
            if (clocks.size() > 8) {
                clocks.removeFirst();
            }
            Check.same("undoable", clocks.size(), x.undoableChanges());
        }
    }

    private static void noRedo() {
        Doc.section(5, "An undone change cannot be redone.");
        Start back = undone(changed(3), 1);
        back.answers("what is left", 2, x -> x.undoableChanges());
        Check.same("undo goes further back", Seen.state(changed(1)), Seen.state(undone(back, 1)));
        undone(changed(3), 3).refuses("undo at the first state", STATE, x -> x.undo());
        Start other = back.then(x -> x.setCostLimit(0, 1));
        other.answers("another change instead", 3, x -> x.undoableChanges());
        Check.same("the other change undone", Seen.state(changed(2)), Seen.state(undone(other, 1)));
        undone(undone(changed(9), 8).then(x -> x.advanceClock(1)), 1).refuses("what was undone is gone", STATE, x -> x.undo());
    }

    private static void whatComesBack() {
        Doc.section(5, "Undo and restore bring back the questions, cart types, gates, trees, the clock and the totals.");
        Start first = new Start(x -> {
            Parse.load(x, Parse.HEAD);
            x.advanceClock(7);
            x.passCarts(0, 0, 3);
            x.setToll(0, 9);
            x.passCarts(0, 0, 3);
            x.setToll(0, 1);
            x.passCarts(0, 0, 3);
            x.setCostLimit(1, 0);
            x.save(0);
        });
        String want = Seen.state(first);
        Start other = first.then(x -> Parse.load(x, Texts.setup(6, 8, 4) + "hours 5;pass gd cd 7;toll cd 1;pass gd cd 8;"));
        Check.same("another state", false, want.equals(Seen.state(other)));
        Check.same("undone", want, Seen.state(undone(other, 1)));
        Check.same("restored", want, Seen.state(other.then(x -> x.restore(0))));
        Check.same("restored and undone", Seen.state(other), Seen.state(other.then(x -> x.restore(0)).then(x -> x.undo())));
        Start.Run[] single = {x -> x.setToll(1, 77), x -> x.setCostLimit(0, 30), x -> x.halveCounts(0), x -> x.buildTree(1),
            x -> x.advanceClock(1), x -> x.passCarts(1, 1, 999)};
        for (int i = 0; i < single.length; i++) {
            Start changed = first.then(single[i]);
            Check.same("another state by " + i, false, want.equals(Seen.state(changed)));
            Check.same("undone " + i, want, Seen.state(undone(changed, 1)));
            Check.same("restored " + i, want, Seen.state(changed.then(x -> x.restore(0))));
        }
    }

    /** Stations of the two kinds of Texts.full(), with carts that were charged too much and too little, and small ones. */
    private static final Start.Run[] STATIONS = {x -> fullStation(x, 0), x -> fullStation(x, 1),
        x -> Parse.load(x, Texts.setup(1, 2, 4)), x -> Parse.load(x, EMPTY_GATE)};

    private static void fullStation(TollTrees x, int kind) {
        Parse.load(x, Texts.full(kind));
        x.advanceClock(9 + 12 * kind);
        x.passCarts(3, 0, 5 + kind);
        x.setToll(1, 99 - kind);
        x.passCarts(3, 1, 6 + kind);
        x.setToll(7, kind);
        x.passCarts(3, 7, 8 + kind);
    }

    private static void wholeStationsComeBack() {
        Doc.section(5, "Undo and restore bring back the questions, cart types, gates, trees, the clock and the totals.");
        for (Start.Run first : STATIONS) {
            for (Start.Run second : STATIONS) {
                String one = Seen.state(new Start(first));
                String other = Seen.state(new Start(second));
                Start both = new Start(first).then(x -> x.save(0)).then(second).then(x -> x.save(1));
                Check.same("the state before", other, Seen.state(both));
                Start back = both.then(x -> x.restore(0));
                Check.same("restored", one, Seen.state(back));
                Check.same("restored, undone", other, Seen.state(undone(back, 1)));
                Start forth = back.then(x -> x.restore(1));
                Check.same("the other restored", other, Seen.state(forth));
                Check.same("the other restored, undone", one, Seen.state(undone(forth, 1)));
                Check.same("both undone", other, Seen.state(undone(forth, 2)));
            }
        }
    }

    private static void whatStays() {
        Doc.section(5, "They do not affect the input buffer, the reported error, the output, or the saved states.");
        Start busy = Start.busy(Parse.HEAD).then(x -> x.save(0)).then(x -> x.setToll(1, 88));
        for (Start.Run back : new Start.Run[] {x -> x.undo(), x -> x.restore(0), x -> x.restore(1)}) {
            Start behind = busy.then(back);
            behind.answers("input", Seen.inputLength(busy.made()), x -> Seen.inputLength(x));
            behind.then(x -> x.truncateInput(8)).answers("input, the first command", 1, x -> x.play());
            behind.then(x -> x.truncateInput(17)).answers("input, cut in the second", -1, x -> x.play());
            behind.answers("error", "error 2 at 6\n", x -> Seen.error(x));
            behind.answers("output", Seen.output(busy.made()), x -> Seen.output(x));
            for (int i = 0; i < 2; i++) {
                int slot = i;
                Check.same("slot " + slot, Seen.state(busy.then(x -> x.restore(slot))),
                    Seen.state(behind.then(x -> x.restore(slot))));
            }
        }
        // What was saved behind the change that is undone stays saved too.
        Start.NEW.then(x -> x.advanceClock(9)).then(x -> x.save(1)).then(x -> x.undo()).answers("saved before undo", 9,
            x -> x.restore(1));
    }

    private static void savedStatesBehindLoad() {
        Doc.section(5, "load() keeps the saved states.");
        Start start = changed(5).then(x -> x.save(1));
        for (String text : new String[] {Parse.HEAD, Texts.setup(6, 8, 4), "tolls"}) {
            Start behind = start.then(x -> Parse.load(x, text));
            Check.same("slot 0", Seen.state(SAVED), Seen.state(behind.then(x -> x.restore(0))));
            Check.same("slot 1", Seen.state(changed(5)), Seen.state(behind.then(x -> x.restore(1))));
        }
        Start.loaded(Parse.HEAD).refuses("nothing was saved", STATE, x -> x.restore(0));
    }

    private static void refusedCalls() {
        Doc.section(5, "A method that throws an exception changes nothing.");
        Start busy = Start.busy(Parse.HEAD);
        busy.refuses("truncateInput", ARGUMENT, x -> x.truncateInput(-1));
        busy.refuses("passCarts", STATE, x -> x.passCarts(0, 0, 1));
        busy.refuses("save", ARGUMENT, x -> x.save(2));
        busy.refuses("restore", STATE, x -> x.restore(0));
        undone(busy, 8).refuses("undo", STATE, x -> x.undo());
        Start fails = busy.then(x -> {
            for (int i = 0; i < 20; i++) {
                try {
                    x.passCarts(0, 0, 1);
                } catch (IllegalStateException e) {
                    // What it must leave alone is looked at below.
                }
            }
        });
        Check.same("twenty refused calls", busy.seen(), fails.seen());
    }

    // ---- promises 14 to 16 and 21

    private static void undo() {
        Doc.about(14, "Undoes the latest change.");
        Check.same("one of two", Seen.state(changed(1)), Seen.state(undone(changed(2), 1)));
        Doc.about(14, "Returns the number of changes that can still be undone.");
        changed(1).answers("of one", 0, x -> x.undo());
        for (int left = 7; left >= 0; left--) {
            int want = left;
            undone(changed(12), 7 - left).answers("left", want, x -> x.undo());
        }
        Doc.about(14, "Throws `IllegalStateException` if there is no change to undo");
        Start.NEW.refuses("a new object", STATE, x -> x.undo());
        SAVED.refuses("a saved state is no change", STATE, x -> x.undo());
        undone(changed(8), 8).refuses("all undone", STATE, x -> x.undo());
        undone(changed(12), 8).refuses("eight undone of twelve", STATE, x -> x.undo());
        Start.NEW.then(x -> Parse.play(x, "?")).refuses("a failed script is no change", STATE, x -> x.undo());
    }

    private static void save() {
        Doc.about(15, "`slot`: 0 or 1");
        Start start = Start.NEW.then(x -> x.advanceClock(5));
        for (int i = 0; i < 2; i++) {
            int slot = i;
            start.then(x -> x.save(slot)).answers("slot " + slot, 5, x -> x.restore(slot));
            start.then(x -> x.save(slot)).refuses("the other slot", STATE, x -> x.restore(1 - slot));
        }
        Doc.about(15, "Returns the clock.");
        Start.NEW.answers("clock 0", 0, x -> x.save(0));
        TermEdges.LATE.then(x -> x.advanceClock(99)).answers("clock 9999", 9999, x -> x.save(1));
        Doc.about(15, "Throws `IllegalArgumentException` if slot is out of range");
        for (int slot : new int[] {-1, 2, 3, MIN, MAX}) {
            Start.NEW.refuses("save " + slot, ARGUMENT, x -> x.save(slot));
            Start.busy(Parse.HEAD).refuses("save " + slot, ARGUMENT, x -> x.save(slot));
        }
        Doc.about(15, "Saves the state in a slot and overwrites what was saved there.");
        Start both = start.then(x -> {
            x.save(0);
            x.advanceClock(5);
            x.save(1);
            x.setToll(0, 50);
        });
        for (int i = 0; i < 2; i++) {
            int slot = i;
            Start over = both.then(x -> x.save(slot)).then(x -> Parse.load(x, Parse.HEAD));
            Check.same("saved over", Seen.state(both), Seen.state(over.then(x -> x.restore(slot))));
            over.answers("the other slot", slot == 0 ? 10 : 5, x -> x.restore(1 - slot));
            Check.same("save changes no state", Seen.state(both), Seen.state(both.then(x -> x.save(slot))));
        }
    }

    private static void restore() {
        Doc.about(16, "`slot`: 0 or 1");
        Start both = Start.NEW.then(x -> {
            x.save(0);
            x.advanceClock(5);
            x.save(1);
            x.advanceClock(5);
        });
        both.answers("slot 0", 0, x -> x.restore(0));
        both.answers("slot 1", 5, x -> x.restore(1));
        Doc.about(16, "Returns the clock of that state.");
        TermEdges.LATE.then(x -> x.advanceClock(99)).then(x -> x.save(1)).then(x -> x.undo()).answers("clock 9999", 9999,
            x -> x.restore(1));
        both.then(x -> x.restore(1)).answers("clock", 5, x -> x.clock());
        Doc.about(16, "Throws `IllegalArgumentException` if slot is out of range");
        for (int slot : new int[] {-1, 2, 3, MIN, MAX}) {
            Start.NEW.refuses("nothing saved, restore " + slot, ARGUMENT, x -> x.restore(slot));
            both.refuses("both saved, restore " + slot, ARGUMENT, x -> x.restore(slot));
        }
        Doc.about(16, "Throws `IllegalStateException` if nothing is saved in the slot");
        Start.NEW.refuses("slot 0", STATE, x -> x.restore(0));
        Start.NEW.refuses("slot 1", STATE, x -> x.restore(1));
        SAVED.refuses("the other slot", STATE, x -> x.restore(1));
        Start.busy(Parse.HEAD).refuses("the other slot", STATE, x -> x.restore(0));
    }

    private static void restoreAgain() {
        Doc.about(16, "Makes a saved state the present state.");
        Start start = changed(5).then(x -> x.save(1));
        Start away = start.then(x -> Parse.load(x, Texts.setup(6, 8, 4)));
        Check.same("the present state", Seen.state(changed(5)), Seen.state(away.then(x -> x.restore(1))));
        Doc.about(16, "The state stays saved.");
        Start behind = away.then(x -> {
            x.restore(1);
            x.passCarts(1, 0, 99);
            x.setToll(0, 98);
            x.setCostLimit(1, 0);
            x.buildTree(1);
            x.halveCounts(0);
            x.advanceClock(100);
        });
        Check.same("restored again", Seen.state(changed(5)), Seen.state(behind.then(x -> x.restore(1))));
        Check.same("and again", Seen.state(changed(5)), Seen.state(behind.then(x -> x.restore(1)).then(x -> x.restore(1))));
        // What happens to the state that was saved does not touch what is saved.
        Start moved = start.then(x -> {
            x.passCarts(1, 0, 99);
            x.setToll(0, 98);
            x.advanceClock(1);
        });
        Check.same("changed behind save", Seen.state(changed(5)), Seen.state(moved.then(x -> x.restore(1))));
    }

    private static void undoableChanges() {
        Doc.about(21, "Returns the number of changes that can be undone.");
        for (int changes = 0; changes <= CHANGES.length; changes++) {
            int want = Math.min(8, changes);
            changed(changes).answers(changes + " changes", want, x -> x.undoableChanges());
            for (int undos = 1; undos <= want; undos++) {
                undone(changed(changes), undos).answers(undos + " undone of " + changes, want - undos, x -> x.undoableChanges());
            }
        }
    }
}
