/** What the tests share: feeding texts, comparing answers, and the closing line. */
final class Check {
    interface Call {
        Object answer();
    }

    static final String FIRST_SETUP = "tolls; ask wheels 1; ask load 2; ask beast 1; cart barrow 2; "
        + "cart dray 5 wheels load; cart coach 7 wheels beast; cart wagon 9 wheels load beast; cart mule 3 beast; "
        + "gate north 6 20 9 40 25 10 15 10; gate south 0 23 2 5 50 5 30 10;";

    private static int passed = 0;
    private static int failed = 0;
    private static String about = "";

    private Check() {
    }

    /** What the next checks are about stands before what they tell. */
    static void about(String what) {
        about = what;
    }

    /** Compares the answer of a call, or the simple name of what it throws, with what is due. */
    static void due(String what, Object want, Call call) {
        Object got;
        try {
            got = call.answer();
        } catch (RuntimeException e) {
            got = e.getClass().getSimpleName();
        }
        same(what, want, got);
    }

    static void same(String what, Object want, Object got) {
        if (want.equals(got)) {
            passed++;
        } else {
            failed++;
            System.out.println(about + what + " answered " + got + ", due is " + want);
        }
    }

    static void outside(String what, Call call) {
        due(what, "IndexOutOfBoundsException", call);
    }

    static void illegal(String what, Call call) {
        due(what, "IllegalArgumentException", call);
    }

    static void notNow(String what, Call call) {
        due(what, "IllegalStateException", call);
    }

    /** Puts a text of at most 700 bytes into the empty input buffer; each char is one byte. */
    static void feed(TollTrees x, String text) {
        StringBuilder padded = new StringBuilder(text);
        while (padded.length() % 20 != 0) {
            padded.append(' ');
        }
        for (int i = 0; i < padded.length(); i += 20) {
            x.append(word(padded, i), word(padded, i + 4), word(padded, i + 8), word(padded, i + 12),
                word(padded, i + 16));
        }
        x.truncateInput(text.length());
    }

    static int word(CharSequence text, int at) {
        return text.charAt(at) << 24 | text.charAt(at + 1) << 16 | text.charAt(at + 2) << 8 | text.charAt(at + 3);
    }

    static int load(TollTrees x, String text) {
        feed(x, text);
        return x.load();
    }

    static int play(TollTrees x, String text) {
        feed(x, text);
        return x.play();
    }

    static TollTrees loaded(String text) {
        TollTrees x = new TollTrees();
        if (load(x, text) == TollTrees.NONE) {
            throw new IllegalStateException("error " + x.errorCode() + " at " + x.errorOffset() + " in " + text);
        }
        return x;
    }

    static String written(TollTrees x, int gate) {
        int length = x.writeTree(gate);
        StringBuilder text = new StringBuilder();
        for (int i = 0; i < length; i++) {
            text.append((char) x.outputByte(i));
        }
        return text.toString();
    }

    private static void name(StringBuilder all, java.util.function.IntUnaryOperator bytes) {
        for (int i = 0; bytes.applyAsInt(i) != TollTrees.NONE; i++) {
            all.append((char) bytes.applyAsInt(i));
        }
        all.append(' ');
    }

    /** All that can be seen of the state, without a change to it: undo, input, error and output left out. */
    static String seen(TollTrees x) {
        StringBuilder all = new StringBuilder();
        all.append(x.questionCount()).append(' ').append(x.typeCount()).append(' ').append(x.gateCount());
        all.append(" clock ").append(x.clock()).append(" totals ").append(x.cartsPassed()).append(' ')
            .append(x.costAsked()).append(' ').append(x.tollsPaid()).append(' ').append(x.tollsDue()).append(' ')
            .append(x.cartsOvercharged()).append(' ').append(x.cartsUndercharged()).append(' ')
            .append(x.overcharge()).append(' ').append(x.undercharge()).append('\n');
        for (int q = 0; q < x.questionCount(); q++) {
            int question = q;
            name(all, i -> x.questionNameByte(question, i));
            all.append(x.questionCost(q)).append('\n');
        }
        for (int t = 0; t < x.typeCount(); t++) {
            int type = t;
            name(all, i -> x.typeNameByte(type, i));
            all.append(x.toll(t));
            for (int q = 0; q < x.questionCount(); q++) {
                all.append(x.hasTrait(t, q) ? " yes" : " no");
            }
            all.append('\n');
        }
        for (int g = 0; g < x.gateCount(); g++) {
            int gate = g;
            name(all, i -> x.gateNameByte(gate, i));
            all.append(x.isOpen(g)).append(' ').append(x.hoursUntilOpen(g)).append(' ').append(x.costLimit(g));
            for (int t = 0; t < x.typeCount(); t++) {
                all.append(' ').append(x.countAt(g, t));
            }
            for (int n = 0; n < x.nodeCount(g); n++) {
                all.append(" [").append(x.nodeQuestion(g, n)).append(' ').append(x.leafToll(g, n)).append(' ')
                    .append(x.yesChild(g, n)).append(' ').append(x.noChild(g, n)).append(' ')
                    .append(x.typesAt(g, n)).append(']');
            }
            all.append('\n');
        }
        return all.toString();
    }

    /** As seen(), and with it what a call that throws must leave alone too. */
    static String seenWhole(TollTrees x) {
        StringBuilder all = new StringBuilder(seen(x));
        all.append(x.undoableChanges()).append(' ').append(x.errorCode()).append(' ').append(x.errorOffset());
        for (int i = 0; x.outputByte(i) != TollTrees.NONE; i++) {
            all.append((char) x.outputByte(i));
        }
        return all.toString();
    }

    /** Compares what a call throws and that it changes nothing that can be seen. */
    static void throwsAndKeeps(TollTrees x, String what, String exception, Call call) {
        String before = seenWhole(x);
        due(what, exception, call);
        same(what + " keeps the state", before, seenWhole(x));
    }

    static void finish(String test) {
        System.out.println(test + ": " + passed + " passed, " + failed + " failed");
        if (failed != 0) {
            System.exit(1);
        }
    }
}
