/**
 * A run of calls on a new object, which can be made again: what is tested behind it, and what is looked at, has an
 * object of its own each time, so that no object is used for more than its 512 calls.
 */
final class Start {
    interface Run {
        void on(TollTrees x);
    }

    interface Call {
        Object of(TollTrees x);
    }

    static final Start NEW = new Start(x -> { });

    private final Run run;
    private String seen;
    private String kept;

    Start(Run run) {
        this.run = run;
    }

    /** The station that load() makes of a text. */
    static Start loaded(String setup) {
        return new Start(x -> Parse.load(x, setup));
    }

    /**
     * The same station with much behind it: undo is full, a state is saved, an error is reported, and there are
     * output and input. Every change before it was one of another station, the largest there may be.
     */
    static Start busy(String setup) {
        return new Start(x -> {
            Parse.load(x, Texts.setup(6, 8, 4));
            x.advanceClock(5);
            x.save(1);
            x.writeTree(3);
            Parse.load(x, setup);
            for (int i = 0; i < 4; i++) {
                x.setToll(0, 20 + i);
            }
            x.setCostLimit(0, 29);
            x.advanceClock(1);
            x.setToll(0, 30);
            x.halveCounts(0);
            Parse.play(x, "hours 0;");
            Parse.feed(x, "hours 3;limit ga 7;");
        });
    }

    TollTrees made() {
        TollTrees x = new TollTrees();
        run.on(x);
        return x;
    }

    Start then(Run more) {
        return new Start(x -> {
            run.on(x);
            more.on(x);
        });
    }

    /** All that can be seen behind the run. */
    String seen() {
        if (seen == null) {
            seen = Seen.all(this);
        }
        return seen;
    }

    /** The same, but for the input buffer and the reported error. */
    String kept() {
        if (kept == null) {
            kept = Seen.kept(this);
        }
        return kept;
    }

    void answers(String what, Object want, Call call) {
        TollTrees x = made();
        Check.due(what, want, () -> call.of(x));
    }

    /** The call throws nothing. */
    void takes(String what, Call call) {
        answers(what, "taken", x -> {
            call.of(x);
            return "taken";
        });
    }

    /** The call throws what is due, and changes nothing. */
    void refuses(String what, String exception, Call call) {
        answers(what, exception, call);
        keeps(what, call);
    }

    void keeps(String what, Call call) {
        Check.same(what + " changes nothing", seen(), then(x -> attempt(x, call)).seen());
    }

    private static void attempt(TollTrees x, Call call) {
        try {
            call.of(x);
        } catch (RuntimeException e) {
            // Its kind is compared elsewhere; here it matters what is left behind it.
        }
    }
}
