/** What can be seen behind a run of calls. Each part is looked at on an object of its own. */
final class Seen {
    private static final int NONE = TollTrees.NONE;
    private static final int FULL = 700;

    interface Bytes {
        int at(int index);
    }

    private Seen() {
    }

    static String all(Start start) {
        return kept(start) + error(start.made()) + input(start);
    }

    /** All but the input buffer and the reported error, which load() and play() leave behind them in any case. */
    static String kept(Start start) {
        return state(start) + undone(start) + saved(start) + "output " + output(start.made()) + "\n";
    }

    /** What undo and restore bring back. */
    static String state(Start start) {
        TollTrees x = start.made();
        int gates = x.gateCount();
        StringBuilder all = new StringBuilder();
        all.append("clock ").append(x.clock()).append(" totals ").append(totals(x)).append('\n');
        questionsAndTypes(all, x);
        for (int gate = 0; gate < gates; gate++) {
            gate(all, start.made(), gate);
        }
        return all + hours(start.made());
    }

    static String totals(TollTrees x) {
        return x.cartsPassed() + " " + x.costAsked() + " " + x.tollsPaid() + " " + x.tollsDue() + " "
            + x.cartsOvercharged() + " " + x.cartsUndercharged() + " " + x.overcharge() + " " + x.undercharge();
    }

    private static void questionsAndTypes(StringBuilder all, TollTrees x) {
        int questions = x.questionCount();
        int types = x.typeCount();
        for (int q = 0; q < questions; q++) {
            int question = q;
            all.append(name(i -> x.questionNameByte(question, i))).append(' ').append(x.questionCost(q)).append('\n');
        }
        for (int t = 0; t < types; t++) {
            int type = t;
            all.append(name(i -> x.typeNameByte(type, i))).append(' ').append(x.toll(t));
            for (int q = 0; q < questions; q++) {
                all.append(x.hasTrait(t, q) ? " yes" : " no");
            }
            all.append('\n');
        }
    }

    private static void gate(StringBuilder all, TollTrees x, int gate) {
        int types = x.typeCount();
        int nodes = x.nodeCount(gate);
        all.append(name(i -> x.gateNameByte(gate, i))).append(' ').append(x.isOpen(gate)).append(' ')
            .append(x.hoursUntilOpen(gate)).append(' ').append(x.costLimit(gate));
        for (int type = 0; type < types; type++) {
            all.append(' ').append(x.countAt(gate, type));
        }
        for (int n = 0; n < nodes; n++) {
            all.append(" [").append(x.nodeQuestion(gate, n)).append(' ').append(x.leafToll(gate, n)).append(' ')
                .append(x.yesChild(gate, n)).append(' ').append(x.noChild(gate, n)).append(' ')
                .append(x.typesAt(gate, n)).append(']');
        }
        all.append('\n');
    }

    static String name(Bytes bytes) {
        StringBuilder name = new StringBuilder();
        for (int i = 0, letter = bytes.at(0); letter != NONE && i < 10; letter = bytes.at(i)) {
            name.append((char) letter);
            i++;
        }
        return name.toString();
    }

    /** For each gate the hours from now on, a day of them as far as the clock goes: o if it is open, else a dot. */
    private static String hours(TollTrees x) {
        int gates = x.gateCount();
        int ahead = Math.min(23, 9999 - x.clock());
        StringBuilder[] days = new StringBuilder[gates];
        for (int gate = 0; gate < gates; gate++) {
            days[gate] = new StringBuilder();
        }
        for (int hour = 0; hour <= ahead; hour++) {
            if (hour > 0) {
                x.advanceClock(1);
            }
            for (int gate = 0; gate < gates; gate++) {
                days[gate].append(x.isOpen(gate) ? 'o' : '.');
            }
        }
        return String.join("\n", days) + "\n";
    }

    private static String undone(Start start) {
        int changes = start.made().undoableChanges();
        StringBuilder all = new StringBuilder();
        for (int undos = 1; undos <= changes; undos++) {
            Start back = start.then(undoing(undos));
            all.append("undo ").append(undos).append(" of ").append(changes).append(", left ")
                .append(back.made().undoableChanges()).append('\n').append(state(back));
        }
        return all.toString();
    }

    private static Start.Run undoing(int undos) {
        return x -> {
            for (int i = 0; i < undos; i++) {
                x.undo();
            }
        };
    }

    private static String saved(Start start) {
        StringBuilder all = new StringBuilder();
        for (int i = 0; i < 2; i++) {
            int slot = i;
            all.append("saved ").append(slot).append('\n');
            try {
                start.made().restore(slot);
                all.append(state(start.then(x -> x.restore(slot))));
            } catch (IllegalStateException e) {
                all.append("nothing\n");
            }
        }
        return all.toString();
    }

    /** The tree of a gate as writeTree() writes it. */
    static String tree(TollTrees x, int gate) {
        x.writeTree(gate);
        return output(x);
    }

    static String output(TollTrees x) {
        StringBuilder output = new StringBuilder();
        int value = x.outputByte(0);
        for (int i = 1; value != NONE && i < 200; i++) {
            output.append((char) value);
            value = x.outputByte(i);
        }
        return output.toString();
    }

    static String error(TollTrees x) {
        return "error " + x.errorCode() + " at " + x.errorOffset() + "\n";
    }

    /** The input buffer can be seen by what load() and play() make of it. */
    private static String input(Start start) {
        Start loaded = start.then(x -> x.load());
        Start played = start.then(x -> x.play());
        return "input " + inputLength(start.made()) + "\nload " + start.made().load() + "\n" + error(loaded.made())
            + state(loaded) + "play " + start.made().play() + "\n" + error(played.made()) + state(played);
    }

    /** Uses the buffer up: the object is of no use behind it. */
    static int inputLength(TollTrees x) {
        int longer = x.append(0, 0, 0, 0, 0);
        if (longer != NONE) {
            return longer - 20;
        }
        for (int length = FULL; length > FULL - 20; length--) {
            try {
                return x.truncateInput(length);
            } catch (IllegalArgumentException e) {
                // The buffer is shorter.
            }
        }
        return NONE;
    }
}
