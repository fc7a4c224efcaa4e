/** The edges of promises 1 to 7: a new object, the input buffer, load(), play() and their errors. */
final class InputEdges {
    private static final int NONE = TollTrees.NONE;
    private static final int MIN = Integer.MIN_VALUE;
    private static final int MAX = Integer.MAX_VALUE;
    private static final int BLANK = 0x20202020;
    private static final String SMALL = "tolls;ask a 1;cart c 2;gate g 0 23 9 4;";

    private InputEdges() {
    }

    static void run() {
        newObject();
        appendLengths();
        appendBytes();
        appendSigns();
        truncate();
        truncateWrong();
        truncatedAndAppended();
        loadEmptiesTheBuffer();
        loadReplaces();
        loadWithError();
        loadAnswers();
        playEmptiesTheBuffer();
        playIsOneChange();
        playWithError();
        playAnswers();
        errorCodes();
        errorOffsets();
    }

    private static void newObject() {
        Doc.about(1, "Creates the state that load() makes of the text \"tolls; ask wheels 1;");
        Check.same("the state", Seen.state(Start.loaded(Check.FIRST_SETUP)), Seen.state(Start.NEW));
        Doc.about(1, "with an empty input buffer, no reported error, an empty output, no saved state and no change to undo.");
        Start.NEW.answers("input", 0, x -> Seen.inputLength(x));
        Start.NEW.answers("input", 0, x -> x.truncateInput(0));
        Start.NEW.refuses("input", "IllegalArgumentException", x -> x.truncateInput(1));
        Start.NEW.answers("nothing to load", NONE, x -> x.load());
        Start.NEW.answers("nothing to play", 0, x -> x.play());
        Start.NEW.answers("code", 0, x -> x.errorCode());
        Start.NEW.answers("offset", NONE, x -> x.errorOffset());
        Start.NEW.answers("output", NONE, x -> x.outputByte(0));
        Start.NEW.refuses("slot 0", "IllegalStateException", x -> x.restore(0));
        Start.NEW.refuses("slot 1", "IllegalStateException", x -> x.restore(1));
        Start.NEW.refuses("undo", "IllegalStateException", x -> x.undo());
        Start.NEW.answers("changes", 0, x -> x.undoableChanges());
        Start.busy(Texts.setup(2, 3, 2)).made();
        Check.same("a new one behind another one", Seen.state(Start.loaded(Check.FIRST_SETUP)), Seen.state(Start.NEW));
    }

    // ---- append

    private static Start filled(int length) {
        return new Start(x -> {
            for (int i = 0; i < length; i += 20) {
                x.append(BLANK, BLANK, BLANK, BLANK, BLANK);
            }
            x.truncateInput(length);
        });
    }

    private static void appendLengths() {
        Doc.about(2, "Returns the new length of the input buffer; NONE, with no change, if it would exceed 700.");
        for (int length : new int[] {0, 1, 19, 20, 21, 660, 661, 679, 680}) {
            filled(length).answers("behind " + length, length + 20, x -> x.append(BLANK, 0, MIN, MAX, -1));
        }
        for (int length : new int[] {681, 682, 699, 700}) {
            Start full = filled(length);
            full.answers("behind " + length, NONE, x -> x.append(BLANK, 0, MIN, MAX, -1));
            full.keeps("behind " + length, x -> x.append(BLANK, 0, MIN, MAX, -1));
        }
        Start.busy(SMALL).then(x -> {
            for (int i = 0; i < 34; i++) {
                x.append(BLANK, BLANK, BLANK, BLANK, BLANK);
            }
        }).keeps("much behind it, " + 700, x -> x.append(0, 0, 0, 0, 0));
        filled(700).answers("twice", NONE + "" + NONE, x -> "" + x.append(0, 0, 0, 0, 0) + x.append(0, 0, 0, 0, 0));
        filled(700).then(x -> x.play()).answers("emptied by play()", 20, x -> x.append(0, 0, 0, 0, 0));
        filled(700).then(x -> x.load()).answers("emptied by load()", 20, x -> x.append(0, 0, 0, 0, 0));
    }

    /** A byte that is no token, in each place of five blank words. */
    private static void appendBytes() {
        String[] parameters = {"`a`: bytes 0 to 3", "`b`: bytes 4 to 7", "`c`: bytes 8 to 11", "`d`: bytes 12 to 15",
            "`e`: bytes 16 to 19"};
        for (int place = 0; place < 20; place++) {
            Doc.about(2, parameters[place / 4]);
            int[] words = {BLANK, BLANK, BLANK, BLANK, BLANK};
            int shift = 24 - 8 * (place % 4);
            words[place / 4] += '?' - ' ' << shift;
            int at = place;
            for (int before : new int[] {0, 20, 680, 13}) {
                Start start = filled(before).then(x -> x.append(words[0], words[1], words[2], words[3], words[4]));
                start.then(x -> x.play()).answers("byte " + at + " behind " + before, before + at, x -> x.errorOffset());
            }
        }
        Doc.about(2, "Appends 20 bytes to the input buffer: the four bytes of each parameter, the most significant byte first.");
        String text = "toll mule 10;hours7;";
        Start start = new Start(x -> x.append(Check.word(text, 0), Check.word(text, 4), Check.word(text, 8),
            Check.word(text, 12), Check.word(text, 16)));
        start.answers("two commands", 2, x -> x.play());
        start.then(x -> x.play()).answers("10 and 7", "10 7", x -> x.toll(4) + " " + x.clock());
    }

    /** Bytes from 128 to 255 are not the bytes that are less by 128, and a sign is not carried over. */
    private static void appendSigns() {
        for (int shift = 24; shift >= 0; shift -= 8) {
            for (int sign : new int[] {' ', ';', 'a', 'z', '0', '9', 0, 127}) {
                int word = BLANK & ~(255 << shift) | (sign + 128) << shift;
                int at = 3 - shift / 8;
                Start start = new Start(x -> x.append(word, BLANK, BLANK, BLANK, BLANK)).then(x -> x.play());
                start.answers("byte " + (sign + 128) + " at " + at, "1 " + at, x -> x.errorCode() + " " + x.errorOffset());
            }
        }
        Start ones = new Start(x -> x.append(BLANK, -1, BLANK, BLANK, BLANK)).then(x -> x.play());
        ones.answers("-1", 4, x -> x.errorOffset());
    }

    // ---- truncateInput

    private static void truncate() {
        Start start = Start.NEW.then(x -> Parse.feed(x, "hours 1;hours 2;hours 4;"));
        for (int length : new int[] {0, 1, 8, 9, 10, 16, 23, 24}) {
            Doc.about(3, "`length`: the new length, 0 to the current length");
            start.then(x -> x.truncateInput(length)).answers("to " + length, length, x -> Seen.inputLength(x));
            Doc.about(3, "Returns the new length.");
            start.answers("to " + length, length, x -> x.truncateInput(length));
        }
        Doc.about(3, "Shortens the input buffer.");
        int[] lengths = {0, 7, 8, 12, 16, 23, 24};
        int[] clocks = {0, 0, 1, 0, 3, 0, 7};
        for (int i = 0; i < lengths.length; i++) {
            int length = lengths[i];
            start.then(x -> x.truncateInput(length)).then(x -> x.play()).answers("what is left of " + length, clocks[i],
                x -> x.clock());
        }
        Start busy = Start.busy(SMALL);
        Check.same("nothing else changes", busy.kept(), busy.then(x -> x.truncateInput(3)).kept());
        busy.then(x -> x.truncateInput(3)).answers("the error stays", "error 2 at 6\n", x -> Seen.error(x));
    }

    private static void truncateWrong() {
        Doc.about(3, "Throws `IllegalArgumentException` if length is out of range");
        for (int length : new int[] {0, 1, 20, 679, 699, 700}) {
            Start start = filled(length);
            start.takes("to the same, " + length, x -> x.truncateInput(length));
            for (int wrong : new int[] {-1, length + 1, length + 20, 701, MIN, MAX}) {
                start.refuses(wrong + " of " + length, "IllegalArgumentException", x -> x.truncateInput(wrong));
            }
        }
        Start busy = Start.busy(SMALL);
        int length = Seen.inputLength(busy.made());
        for (int wrong : new int[] {-1, length + 1, 700, MIN, MAX}) {
            busy.refuses(wrong + " of " + length, "IllegalArgumentException", x -> x.truncateInput(wrong));
        }
        Start shorter = busy.then(x -> x.truncateInput(length - 1));
        shorter.refuses("the length before", "IllegalArgumentException", x -> x.truncateInput(length));
    }

    private static void truncatedAndAppended() {
        Doc.about(3, "Shortens the input buffer.");
        Start start = Start.NEW.then(x -> {
            Parse.feed(x, "hours 1;hours 2;hours 4;");
            x.truncateInput(8);
            x.append(Check.word("hours 8;", 0), Check.word("hours 8;", 4), BLANK, BLANK, BLANK);
        });
        start.answers("length", 28, x -> x.truncateInput(28));
        start.answers("two commands", 2, x -> x.play());
        start.then(x -> x.play()).answers("1 and 8", 9, x -> x.clock());
        // The bytes behind the length are no part of a token that ends there.
        String[] texts = {"hours 11;", "limit north 30;", "build northx;", "hours 1;;"};
        int[] lengths = {7, 13, 11, 8};
        int[] answers = {NONE, NONE, NONE, 1};
        for (int i = 0; i < texts.length; i++) {
            String text = texts[i];
            int length = lengths[i];
            Start cut = Start.NEW.then(x -> Parse.feed(x, text)).then(x -> x.truncateInput(length));
            cut.answers(text + " cut at " + length, answers[i], x -> x.play());
            cut.then(x -> x.play()).answers(text + " cut at " + length, answers[i] == NONE ? length : NONE,
                x -> x.errorOffset());
        }
    }

    // ---- load

    private static void loadEmptiesTheBuffer() {
        Doc.about(4, "Parses the input buffer as a setup and empties the buffer in any case.");
        for (String text : new String[] {SMALL, "", "tolls", SMALL + "hours 0;", SMALL + " ".repeat(700 - SMALL.length())}) {
            Start start = Start.NEW.then(x -> Parse.feed(x, text)).then(x -> x.load());
            start.answers("length behind " + text, 0, x -> Seen.inputLength(x));
            start.answers("loaded again", NONE, x -> x.load());
            start.then(x -> x.load()).answers("the text ends too early", "1 0", x -> x.errorCode() + " " + x.errorOffset());
        }
    }

    private static void loadReplaces() {
        Doc.about(4, "Without an error the state is replaced; the clock and all totals are 0 before the first command.");
        String fresh = Seen.state(Start.loaded(SMALL));
        String largest = Texts.setup(6, 8, 4);
        String fullest = Seen.state(Start.loaded(largest));
        Start late = TermEdges.LATE.then(x -> {
            x.advanceClock(99);
            x.passCarts(1, 2, 999);
            x.setToll(3, 99);
            x.passCarts(1, 3, 999);
        });
        Check.same("behind 9999 hours", fresh, Seen.state(late.then(x -> Parse.load(x, SMALL))));
        Check.same("behind the largest", fresh, Seen.state(Start.busy(largest).then(x -> Parse.load(x, SMALL))));
        Check.same("the largest behind it", fullest, Seen.state(Start.busy(SMALL).then(x -> Parse.load(x, largest))));
        Check.same("the same again", fresh, Seen.state(Start.busy(SMALL).then(x -> Parse.load(x, SMALL))));
        late.then(x -> Parse.load(x, SMALL + "hours 100;")).answers("clock", 100, x -> x.clock());
        late.then(x -> Parse.load(x, SMALL + "pass g c 3;")).answers("totals", "3 0 6 6 0 0 0 0", x -> Seen.totals(x));
        late.then(x -> Parse.load(x, SMALL)).answers("a change", 8, x -> x.undoableChanges());
        Start.NEW.then(x -> Parse.load(x, SMALL + "hours 1;toll c 1;")).answers("one change", 1, x -> x.undoableChanges());
    }

    private static void loadWithError() {
        Doc.about(4, "With an error the state does not change.");
        Start busy = Start.busy(Texts.setup(2, 3, 2));
        Parse.wrong(busy, 1, "^", true);
        Parse.wrong(busy, 1, "tolls;^", true);
        Parse.wrong(busy, 2, "tolls;ask a ^0;", true);
        Parse.wrong(busy, 1, "tolls;ask a 1;cart c 2;gate g 0 23 9 ^;", true);
        Parse.wrong(busy, 1, SMALL + "^?", true);
        Parse.wrong(busy, 1, SMALL + "hours 100;toll c 9;pass g c 9;limit g 1;build g;halve g;^?", true);
        Parse.wrong(busy, 1, Texts.setup(6, 8, 4) + "^?", true);
        Start failed = busy.then(x -> Parse.load(x, SMALL + "toll c 99;?"));
        Check.same("and then a right one", Seen.state(Start.loaded(SMALL)), Seen.state(failed.then(x -> Parse.load(x, SMALL))));
        Check.same("and then a script", Seen.state(busy.then(x -> Parse.play(x, "hours 2;"))),
            Seen.state(failed.then(x -> Parse.play(x, "hours 2;"))));
    }

    private static void loadAnswers() {
        Doc.about(4, "Returns the number of cart types; NONE if there is an error.");
        for (int types = 1; types <= 8; types++) {
            String text = Texts.setup(7 - (types + 1) / 2, types, 1 + types / 3);
            Start.NEW.answers(types + " types", types, x -> Parse.load(x, text));
            Start.NEW.answers("an error", NONE, x -> Parse.load(x, text + "?"));
        }
        Start.NEW.answers("commands do not count", 1, x -> Parse.load(x, SMALL + "hours 1;hours 1;hours 1;"));
    }

    // ---- play

    private static void playEmptiesTheBuffer() {
        Doc.about(5, "Parses the input buffer as a script and empties the buffer in any case.");
        for (String text : new String[] {"", "hours 1;", "hours 1", "?", "build south;".repeat(58) + "    "}) {
            Start start = Start.NEW.then(x -> Parse.feed(x, text)).then(x -> x.play());
            start.answers("length behind " + text, 0, x -> Seen.inputLength(x));
            start.answers("played again", 0, x -> x.play());
        }
    }

    private static void playIsOneChange() {
        Doc.about(5, "Without an error the commands are executed as a single change.");
        String many = "hours 1;toll mule 9;pass south mule 5;limit south 9;build south;halve south;";
        for (String text : new String[] {"", "   ", "hours 1;", many, many.repeat(9)}) {
            Start start = Start.NEW.then(x -> Parse.play(x, text));
            start.answers(text, 1, x -> x.undoableChanges());
            Check.same(text + " undone", Seen.state(Start.NEW), Seen.state(start.then(x -> x.undo())));
        }
        Start.busy(SMALL).then(x -> x.undo()).then(x -> Parse.play(x, "")).answers("an empty script", 8,
            x -> x.undoableChanges());
    }

    private static void playWithError() {
        Doc.about(5, "With an error the state does not change.");
        Start busy = Start.busy(SMALL);
        String commands = "hours 100;toll c 9;pass g c 9;limit g 1;build g;halve g;";
        Parse.wrong(busy, 1, commands + "^?", false);
        Parse.wrong(busy, 1, commands + "^;", false);
        Parse.wrong(busy, 1, commands + "build g^", false);
        Parse.wrong(busy, 3, commands + "build ^x;", false);
        Parse.wrong(busy, 2, commands + "hours ^0;", false);
        Start failed = busy.then(x -> Parse.play(x, commands + "?"));
        Check.same("and then a right one", Seen.state(busy.then(x -> Parse.play(x, commands))),
            Seen.state(failed.then(x -> Parse.play(x, commands))));
    }

    private static void playAnswers() {
        Doc.about(5, "Returns the number of commands; NONE if there is an error.");
        for (int commands : new int[] {0, 1, 2, 86, 87}) {
            Start start = Start.loaded(SMALL);
            start.answers(commands + " commands", commands, x -> Parse.play(x, "build g;".repeat(commands)));
            start.answers("an error", NONE, x -> Parse.play(x, "build g;".repeat(commands) + "?"));
            start.answers("again", commands + " 0 1", x -> Parse.play(x, "build g;".repeat(commands)) + " "
                + Parse.play(x, "") + " " + Parse.play(x, "hours 1;"));
        }
        Start.loaded(SMALL + "hours 1;hours 1;").answers("those of load() do not count", 1, x -> Parse.play(x, "hours 1;"));
    }

    // ---- errors

    /** A text with each code, at the offset 20. */
    private static final String[] SCRIPTS = {"toll c 1; toll c   1;", "toll c 1; hours 1;  ?", "toll c 1; hours     100000;",
        "toll c 1; build     x;"};

    private static void errorCodes() {
        Doc.about(6, "Returns the code, 1 to 6; 0 if there was no error or no such call.");
        Start start = Start.loaded(Parse.HEAD);
        Start.NEW.answers("no such call", 0, x -> x.errorCode());
        for (int code = 0; code < 4; code++) {
            String text = SCRIPTS[code];
            start.then(x -> Parse.play(x, text)).answers(text, code, x -> x.errorCode());
        }
        start.then(x -> Parse.play(x, "pass g c 1;")).answers("code 6", 6, x -> x.errorCode());
        start.then(x -> Parse.load(x, "tolls;ask a 1;ask a 1;")).answers("code 4", 4, x -> x.errorCode());
        start.then(x -> Parse.load(x, "tolls;" + Texts.asks(7))).answers("code 5", 5, x -> x.errorCode());
        Doc.about(6, "Returns the error code of the latest call of load() or play().");
        Start wrong = start.then(x -> Parse.play(x, "toll c 100;"));
        wrong.then(x -> Parse.play(x, "build x;")).answers("play, play", 3, x -> x.errorCode());
        wrong.then(x -> Parse.play(x, "")).answers("play, a right play", 0, x -> x.errorCode());
        wrong.then(x -> Parse.load(x, "")).answers("play, load", 1, x -> x.errorCode());
        wrong.then(x -> Parse.load(x, SMALL)).answers("play, a right load", 0, x -> x.errorCode());
        start.then(x -> Parse.load(x, "tolls;ask a 0;")).then(x -> Parse.play(x, "hours 1;")).answers("load, a right play", 0,
            x -> x.errorCode());
        wrong.then(x -> others(x)).answers("other calls", "error 2 at 7\n", x -> Seen.error(x));
        start.then(x -> others(x)).answers("other calls", "error 0 at -1\n", x -> Seen.error(x));
    }

    /** Calls of every kind but load() and play(), in the station of HEAD with one change behind it at least. */
    private static void others(TollTrees x) {
        x.append(0, 0, 0, 0, 0);
        x.truncateInput(3);
        x.advanceClock(6);
        x.passCarts(0, 0, 5);
        x.buildTree(0);
        x.halveCounts(1);
        x.setToll(0, 5);
        x.setCostLimit(0, 5);
        x.save(0);
        x.restore(0);
        x.undo();
        x.writeTree(0);
        for (int wrong = 0; wrong < 2; wrong++) {
            try {
                x.restore(wrong + 1);
            } catch (RuntimeException e) {
                // A refused call between.
            }
        }
    }

    private static void errorOffsets() {
        Doc.about(7, "Returns the offset; NONE if errorCode() is 0.");
        Start start = Start.loaded(Parse.HEAD);
        Start.NEW.answers("no such call", NONE, x -> x.errorOffset());
        for (int code = 0; code < 4; code++) {
            String text = SCRIPTS[code];
            start.then(x -> Parse.play(x, text)).answers(text, code == 0 ? NONE : 20, x -> x.errorOffset());
        }
        start.then(x -> Parse.play(x, "?")).answers("the least offset", 0, x -> x.errorOffset());
        start.then(x -> Parse.play(x, " ".repeat(699) + "?")).answers("offset 699", 699, x -> x.errorOffset());
        start.then(x -> Parse.play(x, "build" + " ".repeat(695))).answers("the greatest offset", 700, x -> x.errorOffset());
        Doc.about(7, "Returns the error offset of the latest call of load() or play().");
        Start wrong = start.then(x -> Parse.play(x, "toll c 100;"));
        wrong.then(x -> Parse.play(x, "build x;")).answers("play, play", 6, x -> x.errorOffset());
        wrong.then(x -> Parse.play(x, "")).answers("play, a right play", NONE, x -> x.errorOffset());
        wrong.then(x -> Parse.load(x, "")).answers("play, load", 0, x -> x.errorOffset());
        wrong.then(x -> Parse.load(x, SMALL)).answers("play, a right load", NONE, x -> x.errorOffset());
    }
}
