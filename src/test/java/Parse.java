/** What load() and play() make of texts. In a text that is wrong the sign ^ stands before the wrong token. */
final class Parse {
    private static final int NONE = TollTrees.NONE;

    /** A setup up to its commands: gate g is open from 6 to 8, gate h always; the best trees ask a. */
    static final String HEAD =
        "tolls;ask a 1;ask b 2;cart c 3;cart d 4 a;gate g 6 8 9 1 2;gate h 0 23 9 3 4;";

    /** The clock is at 1, and the counts of g are halved to 0 and 1. */
    private static final Start BUSY = Start.busy(HEAD);

    private Parse() {
    }

    /** Puts a text of at most 700 bytes into the input buffer, in place of what is there; each char is one byte. */
    static void feed(TollTrees x, String text) {
        StringBuilder padded = new StringBuilder(text);
        while (padded.length() % 20 != 0) {
            padded.append(' ');
        }
        x.truncateInput(0);
        for (int i = 0; i < padded.length(); i += 20) {
            x.append(Check.word(padded, i), Check.word(padded, i + 4), Check.word(padded, i + 8),
                Check.word(padded, i + 12), Check.word(padded, i + 16));
        }
        x.truncateInput(text.length());
    }

    static int load(TollTrees x, String text) {
        feed(x, text);
        return x.load();
    }

    static int play(TollTrees x, String text) {
        feed(x, text);
        return x.play();
    }

    /** A setup without an error, with so many cart types. */
    static TollTrees setup(int types, String text) {
        TollTrees x = new TollTrees();
        right(x, text, types, load(x, text));
        return x;
    }

    /** A script of so many commands without an error, on the station of HEAD. */
    static TollTrees script(int commands, String text) {
        TollTrees x = new TollTrees();
        load(x, HEAD);
        right(x, text, commands, play(x, text));
        return x;
    }

    private static void right(TollTrees x, String text, int want, int answer) {
        Check.same(text, want, answer);
        Check.same(text + " code", 0, x.errorCode());
        Check.same(text + " offset", NONE, x.errorOffset());
        Check.same(text + " is a change", true, x.undoableChanges() > 0);
    }

    /** A setup with an error: the answer, the code and the offset, and that all else stays. */
    static void setupWrong(int code, String marked) {
        wrong(BUSY, code, marked, true);
    }

    /** A script with an error, and the same commands behind a setup. */
    static void scriptWrong(int code, String marked) {
        wrong(BUSY, code, marked, false);
        wrong(BUSY, code, HEAD + marked, true);
    }

    /** A script with an error that is not put behind a setup, for that would be too long or of no use. */
    static void scriptWrongAlone(int code, String marked) {
        wrong(BUSY, code, marked, false);
    }

    static void wrong(Start start, int code, String marked, boolean setup) {
        int offset = marked.indexOf('^');
        String text = marked.substring(0, offset) + marked.substring(offset + 1);
        Start fed = start.then(x -> feed(x, text));
        Start behind = fed.then(x -> read(x, setup));
        Check.same(marked, NONE, read(fed.made(), setup));
        TollTrees x = behind.made();
        Check.same(marked + " code", code, x.errorCode());
        Check.same(marked + " offset", offset, x.errorOffset());
        Check.same(marked + " empties the buffer", 20, x.append(0, 0, 0, 0, 0));
        Check.same(marked + " keeps all else", start.kept(), behind.kept());
    }

    private static int read(TollTrees x, boolean setup) {
        return setup ? x.load() : x.play();
    }
}
