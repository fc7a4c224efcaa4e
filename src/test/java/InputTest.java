/** Promises 1 to 7: a new object, the input buffer, load() and play() with their errors. */
public final class InputTest {
    private static final int NONE = TollTrees.NONE;
    private static final String HEAD = Parse.HEAD;
    private static final Start LOADED = Start.loaded(HEAD);

    public static void main(String[] args) {
        newObject();
        append();
        bytesOfAppend();
        truncate();
        load();
        loadReplacesAll();
        play();
        errorsStayUntilTheNextText();
        spaces();
        names();
        leadingZeros();
        syntaxOfSetups();
        syntaxOfCommands();
        ranges();
        rangeOfClock();
        unknownNames();
        duplicates();
        tooMany();
        notPossible();
        lowestCode();
        failedTexts();
        bytesBehindTheText();
        fullBuffer();
        Check.finish("InputTest");
    }

    private static void newObject() {
        TollTrees x = new TollTrees();
        Check.same("new: input", 20, x.append(0, 0, 0, 0, 0));
        Check.same("new: error", 0, x.errorCode());
        Check.same("new: offset", NONE, x.errorOffset());
        Check.same("new: output", NONE, x.outputByte(0));
        Check.notNow("new: restore(0)", () -> x.restore(0));
        Check.notNow("new: restore(1)", () -> x.restore(1));
        Check.notNow("new: undo()", () -> x.undo());
        Check.same("new: undoable", 0, x.undoableChanges());
        String want = "clock 0 totals 0 0 0 0 0 0 0 0\n"
            + "wheels 1\nload 2\nbeast 1\n"
            + "barrow 2 no no no\ndray 5 yes yes no\ncoach 7 yes no yes\nwagon 9 yes yes yes\nmule 3 no no yes\n"
            + "north false 6 9 40 25 10 15 10 [0 -1 1 6 31] [2 -1 2 5 14] [1 -1 3 4 12] [-1 9 -1 -1 8]"
            + " [-1 7 -1 -1 4] [-1 5 -1 -1 2] [2 -1 7 8 17] [-1 3 -1 -1 16] [-1 2 -1 -1 1]\n"
            + "south true 0 2 5 50 5 30 10 [0 -1 1 4 31] [2 -1 2 3 14] [-1 9 -1 -1 12] [-1 5 -1 -1 2]"
            + " [2 -1 5 6 17] [-1 3 -1 -1 16] [-1 2 -1 -1 1]\n"
            + "......" + "o".repeat(15) + "...\n" + "o".repeat(24) + "\n";
        Check.same("new: state", want, Seen.state(Start.NEW));
        Check.same("new: as loaded", Seen.state(Start.loaded(Check.FIRST_SETUP)), Seen.state(Start.NEW));
    }

    private static void append() {
        TollTrees x = new TollTrees();
        for (int length = 20; length <= 700; length += 20) {
            Check.same("append to " + length, length, x.append(0x20202020, 0x20202020, 0x20202020, 0, 0));
        }
        Check.same("append to 720", NONE, x.append(1, 2, 3, 4, 5));
        Check.same("truncate after a refused append", 700, x.truncateInput(700));
        x.truncateInput(681);
        Check.same("append to 701", NONE, x.append(1, 2, 3, 4, 5));
        x.truncateInput(680);
        Check.same("append to 700", 700, x.append(1, 2, 3, 4, 5));
    }

    private static void bytesOfAppend() {
        String text = "hours 1;hours 02;   ";
        TollTrees x = new TollTrees();
        x.append(Check.word(text, 0), Check.word(text, 4), Check.word(text, 8), Check.word(text, 12),
            Check.word(text, 16));
        Check.same("play what was appended", 2, x.play());
        Check.same("clock", 3, x.clock());
        for (int i = 0; i < 20; i++) {
            TollTrees y = new TollTrees();
            int bits = 0x7f << 8 * (3 - i % 4);
            int b = 0x20202020 ^ 0x20202020 & bits | bits;
            int s = 0x20202020;
            y.append(i / 4 == 0 ? b : s, i / 4 == 1 ? b : s, i / 4 == 2 ? b : s, i / 4 == 3 ? b : s, i / 4 == 4 ? b : s);
            Check.same("byte " + i, NONE, y.play());
            Check.same("byte " + i + " code", 1, y.errorCode());
            Check.same("byte " + i + " offset", i, y.errorOffset());
        }
    }

    private static void truncate() {
        TollTrees x = new TollTrees();
        Check.same("truncate nothing", 0, x.truncateInput(0));
        Check.illegal("truncateInput(1)", () -> x.truncateInput(1));
        Check.illegal("truncateInput(-1)", () -> x.truncateInput(-1));
        Check.illegal("truncateInput(MIN)", () -> x.truncateInput(Integer.MIN_VALUE));
        Parse.feed(x, "hours 1;hours 2;hours 3;");
        Check.illegal("truncateInput(25)", () -> x.truncateInput(25));
        Check.illegal("truncateInput(-1)", () -> x.truncateInput(-1));
        Check.same("truncate to the same", 24, x.truncateInput(24));
        Check.same("truncate", 16, x.truncateInput(16));
        Check.illegal("truncateInput(17)", () -> x.truncateInput(17));
        Check.same("truncate is no change", 0, x.undoableChanges());
        Check.same("play the rest", 2, x.play());
        Check.same("clock", 3, x.clock());
    }

    private static void load() {
        TollTrees x = new TollTrees();
        Check.same("load", 2, Parse.load(x, HEAD));
        Check.same("load: code", 0, x.errorCode());
        Check.same("load: offset", NONE, x.errorOffset());
        Check.illegal("load: empty buffer", () -> x.truncateInput(1));
        Check.same("load: undoable", 1, x.undoableChanges());
        Check.same("load with commands", 2, Parse.load(x, HEAD + "hours 6;pass g c 2;toll c 9;pass h c 3;"));
        Check.same("load: clock", 6, x.clock());
        Check.same("load: passed", 5, x.cartsPassed());
        Check.same("load: due", 2 * 3 + 3 * 9, x.tollsDue());
        Check.same("load: paid", 5 * 3, x.tollsPaid());
        Check.same("load: undoable", 2, x.undoableChanges());
        Check.same("load again", 2, Parse.load(x, HEAD));
        Check.same("load: clock 0", 0, x.clock());
        Check.same("load: totals 0", 0, x.cartsPassed() + x.costAsked() + x.tollsPaid() + x.tollsDue()
            + x.cartsOvercharged() + x.cartsUndercharged() + x.overcharge() + x.undercharge());
    }

    private static void loadReplacesAll() {
        String small = "tolls;ask q 9;cart z 99;gate w 23 22 30 9999;";
        String want = "clock 0 totals 0 0 0 0 0 0 0 0\nq 9\nz 99 no\nw true 0 30 9999 [-1 99 -1 -1 1]\n"
            + "o".repeat(24) + "\n";
        Check.same("smaller", want, Seen.state(Start.loaded(small)));
        Start largest = Start.loaded("tolls;ask a 1;ask b 2;ask c 3;ask d 4;ask e 5;ask f 6;cart a 1 a;cart b 2 b;cart c 3 c;"
            + "cart d 4 d;cart e 5 e;cart f 6 f;cart g 7 a b;cart h 8 f e d c b a;gate a 0 1 30 1 2 3 4 5 6 7 8;"
            + "gate b 0 2 30 1 2 3 4 5 6 7 8;gate c 0 3 30 1 2 3 4 5 6 7 8;gate d 0 4 30 1 2 3 4 5 6 7 8;");
        largest.answers("largest: questions", 6, x -> x.questionCount());
        largest.answers("largest: types", 8, x -> x.typeCount());
        largest.answers("largest: gates", 4, x -> x.gateCount());
        largest.answers("largest: nodes", 15, x -> x.nodeCount(3));
        Check.same("smaller again", want, Seen.state(largest.then(x -> Parse.load(x, small))));
    }

    private static void play() {
        TollTrees x = Check.loaded(HEAD);
        Check.same("play nothing", 0, x.play());
        Check.same("play nothing: undoable", 2, x.undoableChanges());
        Check.same("play spaces", 0, Parse.play(x, "    "));
        String script = "hours 7; pass g c 5; pass h d 6; toll d 2; limit g 0; build g; halve h;";
        Check.same("play", 7, Parse.play(x, script));
        Check.same("play: one change", 4, x.undoableChanges());
        Check.illegal("play: empty buffer", () -> x.truncateInput(1));
        Start played = LOADED.then(y -> Parse.play(y, script));
        Check.same("play: state", "clock 7 totals 11 11 39 39 0 0 0 0\na 1\nb 2\nc 3 no no\nd 2 yes no\n"
            + "g true 0 0 6 2 [-1 3 -1 -1 3]\nh true 0 9 1 5 [0 -1 1 2 3] [-1 4 -1 -1 2] [-1 3 -1 -1 1]\n"
            + "oo" + ".".repeat(21) + "o\n" + "o".repeat(24) + "\n", Seen.state(played));
        Check.same("play undone", Seen.state(LOADED), Seen.state(played.then(y -> y.undo())));
        Start called = LOADED.then(y -> {
            y.advanceClock(7);
            y.passCarts(0, 0, 5);
            y.passCarts(1, 1, 6);
            y.setToll(1, 2);
            y.setCostLimit(0, 0);
            y.buildTree(0);
            y.halveCounts(1);
        });
        Check.same("play as the calls", Seen.state(called), Seen.state(played));
    }

    private static void errorsStayUntilTheNextText() {
        TollTrees x = Check.loaded(HEAD);
        Parse.play(x, "hours 1;hours 0;");
        x.advanceClock(1);
        x.undo();
        Check.same("code stays", 2, x.errorCode());
        Check.same("offset stays", 14, x.errorOffset());
        Parse.play(x, "hours 1;");
        Check.same("code of a right text", 0, x.errorCode());
        Check.same("offset of a right text", NONE, x.errorOffset());
        x.undo();
        Check.same("undo leaves the error", 0, x.errorCode());
        Parse.load(x, "tolls");
        Check.same("code of load", 1, x.errorCode());
        Check.same("offset of load", 5, x.errorOffset());
        Parse.load(x, HEAD);
        Check.same("code after load", 0, x.errorCode());
        Check.same("offset after load", NONE, x.errorOffset());
    }

    private static void spaces() {
        String wide = " tolls ; ask  a 1  ; ask b 2;cart c 3 ;cart d 4 a ; gate g 6 8 9 1 2 ; gate h 0 23 9 3 4 ; hours 1 ; ";
        String narrow = "tolls;ask a1;ask b2;cart c3;cart d4a;gate g6 8 9 1 2;gate h0 23 9 3 4;hours1;";
        String want = Seen.state(Start.loaded(HEAD + "hours 1;"));
        Check.same("wide", want, Seen.state(Start.loaded(wide)));
        Check.same("narrow", want, Seen.state(Start.loaded(narrow)));
        TollTrees x = Check.loaded(HEAD);
        Check.same("narrow script", 2, Parse.play(x, "hours7;pass g c1;"));
        Check.same("narrow count", 2, x.countAt(0, 0));
    }

    private static void names() {
        TollTrees x = Check.loaded("tolls;ask ask 1;ask cart 2;cart cart 3 ask cart;cart ask 4 cart;cart gate 5;"
            + "gate gate 0 23 9 1 2 3;gate pass 0 23 9 1 2 3;gate abcdef 0 23 9 1 2 3;"
            + "pass pass gate 1;build gate;toll cart 9;limit abcdef 1;halve pass;hours 1;");
        Check.same("keywords as names: types", 3, x.typeCount());
        Check.same("keywords as names: trait", true, x.hasTrait(0, 0));
        Check.same("keywords as names: trait", false, x.hasTrait(1, 0));
        Check.same("keywords as names: toll", 9, x.toll(0));
        Check.same("keywords as names: count", 2, x.countAt(1, 2));
        Check.same("keywords as names: limit", 1, x.costLimit(2));
        TollTrees y = Check.loaded("tolls;ask a 1;ask aa 1;ask ab 1;ask aaaaaa 1;ask aaaaab 1;ask z 1;cart c 1 aa aaaaab;"
            + "gate c 0 0 0 0;");
        Check.same("like names", true, y.hasTrait(0, 1));
        Check.same("like names", true, y.hasTrait(0, 4));
        Check.same("like names", false, y.hasTrait(0, 0));
        Check.same("like names", false, y.hasTrait(0, 2));
        Check.same("like names", false, y.hasTrait(0, 3));
    }

    private static void leadingZeros() {
        TollTrees x = Check.loaded("tolls;ask a 0000000000000000000009;cart c 000099;gate g 023 0000 030 00009999;"
            + "pass g c 00000000999;hours 0000000000000000000000000000023;");
        Check.same("zeros: cost", 9, x.questionCost(0));
        Check.same("zeros: toll", 99, x.toll(0));
        Check.same("zeros: limit", 30, x.costLimit(0));
        Check.same("zeros: count", 9999, x.countAt(0, 0));
        Check.same("zeros: carts", 999, x.cartsPassed());
        Check.same("zeros: clock", 23, x.clock());
    }

    /** The sign ^ stands before the wrong token. */
    private static void setup(int code, String marked) {
        Parse.wrong(Start.NEW, code, marked, true);
    }

    private static void script(int code, String marked) {
        Parse.wrong(LOADED, code, marked, false);
        setup(code, HEAD + marked);
    }

    private static void syntaxOfSetups() {
        setup(1, "^");
        setup(1, "   ^");
        for (String wrong : new String[] {"toll;", "tollss;", "bolls;", "Tolls;", ";", "7", "hours 1;", "ask a 1;"}) {
            setup(1, " ^" + wrong);
        }
        setup(1, "tolls^");
        setup(1, "tolls  ^");
        setup(1, "tolls ^ask a 1;");
        setup(1, "tolls^5;");
        setup(1, "tolls;^");
        for (String wrong : new String[] {"7", ";", "asks a 1;", "as", "pass", "tolls", "carts", "gates", "build a;",
            "bsk b 1;", "dart d 1;", "hate h 1;"}) {
            setup(1, "tolls;^" + wrong);
            setup(1, "tolls;ask a 1;^" + wrong);
            setup(1, "tolls;ask a 1;cart c 1;^" + wrong);
        }
        setup(1, "tolls;^cart c 1;");
        setup(1, "tolls;^gate g 1 1 1 1;");
        setup(1, "tolls;ask a 1;^gate g 1 1 1 1;");
        setup(1, "tolls;ask a 1;cart c 1;^ask b 1;");
        for (String wrong : new String[] {";", "5", "abcdefg 1;", "A 1;", "", "askaskask"}) {
            setup(1, "tolls;ask ^" + wrong);
            setup(1, "tolls;ask a 1;cart ^" + wrong);
            setup(1, "tolls;ask a 1;cart c 2;gate ^" + wrong);
        }
        for (String wrong : new String[] {";", "b", "-1;", "+1;", "", ".5;", "\u00001;", "\u0080;", "\u00ff;", "\t1;", "\n"}) {
            setup(1, "tolls;ask a ^" + wrong);
            setup(1, "tolls;ask a 1;cart c ^" + wrong);
            setup(1, "tolls;ask a 1;cart c 2;gate g ^" + wrong);
            setup(1, "tolls;ask a 1;cart c 2;gate g 1 ^" + wrong);
            setup(1, "tolls;ask a 1;cart c 2;gate g 1 2 ^" + wrong);
            setup(1, "tolls;ask a 1;cart c 2;gate g 1 2 3 ^" + wrong);
            setup(1, "tolls;ask a 1;cart c 2;cart d 2;gate g 1 2 3 4 ^" + wrong);
        }
        for (String wrong : new String[] {"", "A;", ",", "\u0000", "{"}) {
            setup(1, "tolls;ask a 1^" + wrong);
            setup(1, "tolls;ask a 1;cart c 2^" + wrong);
            setup(1, "tolls;ask a 1;cart c 2 a^" + wrong);
            setup(1, "tolls;ask a 1;cart c 2;gate g 1 2 3 4^" + wrong);
        }
        setup(1, "tolls;ask a 1 ^2;");
        setup(1, "tolls;ask a 1 ^b;");
        setup(1, "tolls;ask a 1;cart c 2 ^3;");
        setup(1, "tolls;ask a 1;cart c 2 a ^3;");
        setup(1, "tolls;ask a 1;cart c 2 ^abcdefg;");
        setup(1, "tolls;ask a 1;cart c 2;gate g 1 2 3 4 ^x;");
        setup(1, "tolls;ask a 1;cart c 2;^");
        setup(1, "tolls;ask a 1;^");
        setup(1, "tolls;ask a 1;cart c 2;cart d 2;cart e 2;gate g 1 2 3 4 5^;");
        for (String wrong : new String[] {"ask b 1;", "cart d 1;", "gates h 1 1 1 1;", ";", "7;", "tolls;"}) {
            setup(1, "tolls;ask a 1;cart c 2;gate g 1 2 3 4;^" + wrong);
        }
        setup(1, "tolls;ask a 1;cart c 2;gate g 1 2 3 4;build g;^gate h 1 2 3 4;");
        setup(1, "tolls;ask a 1;cart c 2;gate g 1 2 3 4;build g;^ask b 1;");
    }

    private static void syntaxOfCommands() {
        for (String wrong : new String[] {";", "7;", "go g;", "passs g c 1;", "pas g c 1;", "Pass g c 1;", "tolls;",
            "ask i 1;", "cart i 1;", "hour 1;", "limits g 1;", "*", "builds g;", "halv g;", "pasS",
            "bass h c 1;", "guild g;", "calve g;", "roll c 1;", "timit g 1;", "yours 1;"}) {
            script(1, "^" + wrong);
            script(1, "hours 1; ^" + wrong);
        }
        script(1, "hours 1;^gate i 0 0 0 0 0;");
        for (String wrong : new String[] {"", ";", "1;", "A;", "gatekee 1;"}) {
            script(1, "pass ^" + wrong);
            script(1, "pass h ^" + wrong);
            script(1, "build ^" + wrong);
            script(1, "halve ^" + wrong);
            script(1, "toll ^" + wrong);
            script(1, "limit ^" + wrong);
        }
        for (String wrong : new String[] {"", ";", "c;", "-1;", "%"}) {
            script(1, "pass h c ^" + wrong);
            script(1, "toll c ^" + wrong);
            script(1, "limit h ^" + wrong);
            script(1, "hours ^" + wrong);
        }
        for (String wrong : new String[] {"", "1;", "c;", "build h;", "\u00fe"}) {
            script(1, "pass h c 1 ^" + wrong);
            script(1, "build h ^" + wrong);
            script(1, "halve h ^" + wrong);
            script(1, "toll c 1 ^" + wrong);
            script(1, "limit h 1 ^" + wrong);
            script(1, "hours 1 ^" + wrong);
        }
    }

    private static void ranges() {
        String huge = "00004294967297";
        String larger = "18446744073709551617";
        for (String wrong : new String[] {"0", "10", "00", "100000", huge, larger}) {
            setup(2, "tolls;ask a ^" + wrong + ";");
        }
        for (String wrong : new String[] {"100", huge, larger, "99999", "100000", "0100"}) {
            setup(2, "tolls;ask a 1;cart c ^" + wrong + ";");
            script(2, "toll c ^" + wrong + ";");
        }
        for (String wrong : new String[] {"24", "0099", huge, larger}) {
            setup(2, "tolls;ask a 1;cart c 1;gate g ^" + wrong + " 1 1 1;");
            setup(2, "tolls;ask a 1;cart c 1;gate g 1 ^" + wrong + " 1 1;");
        }
        for (String wrong : new String[] {"31", huge, larger}) {
            setup(2, "tolls;ask a 1;cart c 1;gate g 1 1 ^" + wrong + " 1;");
            script(2, "limit g ^" + wrong + ";");
        }
        for (String wrong : new String[] {"10000", "99999", huge, larger}) {
            setup(2, "tolls;ask a 1;cart c 1;gate g 1 1 1 ^" + wrong + ";");
            setup(2, "tolls;ask a 1;cart c 1;cart d 1;gate g 1 1 1 1 ^" + wrong + ";");
        }
        for (String wrong : new String[] {"0", "1000", "000", huge, larger}) {
            script(2, "pass h c ^" + wrong + ";");
        }
        for (String wrong : new String[] {"0", "101", huge, larger}) {
            script(2, "hours ^" + wrong + ";");
        }
        setup(2, "tolls;ask a ^0");
        script(2, "hours 1;hours ^101");
        TollTrees x = Check.loaded("tolls;ask a 9;ask b 1;cart c 0;cart d 99;gate g 0 23 0 0 9999;gate h 23 0 30 0 0;"
            + "pass g c 1;pass g c 999;toll c 99;toll d 0;limit g 30;limit h 0;hours 1;hours 100;");
        Check.same("ranges: clock", 101, x.clock());
        Check.same("ranges: carts", 1000, x.cartsPassed());
        Check.same("ranges: tolls", 99, x.toll(0) - x.toll(1));
        Check.same("ranges: limits", 30, x.costLimit(0) - x.costLimit(1));
    }

    private static void rangeOfClock() {
        TollTrees x = Check.loaded(HEAD);
        Parse.play(x, "hours 100;".repeat(70));
        Parse.play(x, "hours 100;".repeat(29) + "hours 50;");
        Check.same("clock", 9950, x.clock());
        Check.same("hours 50", NONE, Parse.play(x, "hours 50;"));
        Check.same("hours 50: code", 2, x.errorCode());
        Check.same("hours 50: offset", 6, x.errorOffset());
        Check.same("hours 49", 1, Parse.play(x, "hours 49;"));
        Check.same("clock", 9999, x.clock());
        Check.same("hours 1", NONE, Parse.play(x, "build g;hours 1;"));
        Check.same("hours 1: code", 2, x.errorCode());
        Check.same("hours 1: offset", 14, x.errorOffset());
        Check.same("load: the clock is 0 before the first command", 2, Parse.load(x, HEAD + "hours 1;"));
        Check.same("clock", 1, x.clock());
    }

    private static void unknownNames() {
        setup(3, "tolls;ask a 1;ask b 1;cart c 1 ^c;");
        setup(3, "tolls;ask a 1;ask b 1;cart c 1 a ^bb;");
        setup(3, "tolls;ask ab 1;cart c 1 ^a;");
        setup(3, "tolls;ask a 1;cart c 1 ^abcdef");
        script(3, "pass ^c c 1;");
        script(3, "pass h ^h 1;");
        script(3, "pass h ^a");
        script(3, "build ^a;");
        script(3, "build ^gg;");
        script(3, "halve ^hh;");
        script(3, "toll ^g 1;");
        script(3, "limit ^d 1;");
        script(3, "limit ^build 1;");
    }

    private static void duplicates() {
        setup(4, "tolls;ask a 1;ask ^a 1;");
        setup(4, "tolls;ask a 1;ask b 1;ask ^a");
        setup(4, "tolls;ask a 1;ask b 1;ask abcdef 1;ask ^abcdef 1;");
        setup(4, "tolls;ask a 1;cart c 1;cart ^c 1;");
        setup(4, "tolls;ask a 1;cart c 1;cart d 1;cart ^c 1;");
        setup(4, "tolls;ask a 1;cart c 1;gate g 1 1 1 1;gate ^g 1 1 1 1;");
        setup(4, "tolls;ask a 1;cart c 1;gate g 1 1 1 1;gate h 1 1 1 1;gate ^g 1 1 1 1;");
        setup(4, "tolls;ask a 1;cart c 1 a ^a;");
        setup(4, "tolls;ask a 1;ask b 1;cart c 1 a b ^a;");
        setup(4, "tolls;ask a 1;ask b 1;cart d 1 a b;cart c 1 b a ^b");
        setup(4, "tolls;ask a 1;ask b 1;ask c 1;ask d 1;ask e 1;ask f 1;cart c 1 a b c d e f ^f;");
        TollTrees x = Check.loaded("tolls;ask a 1;cart a 1;gate a 1 1 1 1;");
        Check.same("one name of three kinds", 1, x.typeCount());
    }

    private static void tooMany() {
        String questions = "tolls;ask a 1;ask b 1;ask c 1;ask d 1;ask e 1;ask f 1;";
        String carts = "cart a 1;cart b 1;cart c 1;cart d 1;cart e 1;cart f 1;cart g 1;cart h 1;";
        setup(5, questions + "^ask g 1;");
        setup(5, questions + "^ask");
        setup(1, questions + "^asks");
        setup(5, questions + carts + "^cart i 1;");
        setup(5, questions + carts + "^cart a");
        setup(1, questions + carts + "^ask g 1;");
        setup(1, questions + carts + "^pass");
        String head = "tolls;ask a 1;cart c 1;gate a 1 1 1 1;gate b 1 1 1 1;gate c 1 1 1 1;gate d 1 1 1 1;";
        setup(5, head + "^gate e 1 1 1 1;");
        setup(5, head + "^gate");
        setup(1, head + "^gates");
        setup(1, head + "hours 1;^gate e 1 1 1 1;");
        setup(5, "tolls;ask a 1;cart c 1;gate a 1 1 1 1 ^1;");
        setup(5, "tolls;ask a 1;cart c 1;cart d 1;gate a 1 1 1 1 1 ^9999");
        setup(5, "tolls;ask a 1;cart c 1;cart d 1;gate a 1 1 1 1 1 ^0 0 0");
    }

    private static void notPossible() {
        script(6, "pass g c ^1;");
        script(6, "hours 5;pass g c ^999;");
        script(6, "hours 9;pass g d ^1");
        script(6, "pass h d 1;hours 6;pass g c 1;hours 3;pass g c ^1;");
        TollTrees x = Check.loaded(HEAD);
        Check.same("pass at the opening hour", 2, Parse.play(x, "hours 6;pass g c 1;"));
        Check.same("pass at the closing hour", 2, Parse.play(x, "hours 2;pass g c 1;"));
    }

    private static void lowestCode() {
        setup(2, "tolls;ask a 1;cart c 1;gate a 1 1 1 1 ^10000;");
        script(2, "pass g c ^0;");
        script(2, "pass g c ^1000;");
        script(1, "pass g c ^;");
        setup(1, "tolls;ask a 1;cart c 1 ^aaaaaaa;");
    }

    /** What stands in the buffer behind the length is no part of the text. */
    private static void bytesBehindTheText() {
        TollTrees x = Check.loaded(HEAD);
        Parse.feed(x, "hours 11;hours 22;");
        x.truncateInput(7);
        Check.same("cut in a number", NONE, x.play());
        Check.same("cut in a number: code", 1, x.errorCode());
        Check.same("cut in a number: offset", 7, x.errorOffset());
        Parse.feed(x, "hours 22;toll c 900;");
        x.truncateInput(18);
        Check.same("in range up to the cut", NONE, x.play());
        Check.same("in range up to the cut: code", 1, x.errorCode());
        Check.same("in range up to the cut: offset", 18, x.errorOffset());
        Parse.feed(x, "build gg;           ");
        x.truncateInput(7);
        Check.same("cut in a name", NONE, x.play());
        Check.same("cut in a name: code", 1, x.errorCode());
        Check.same("cut in a name: offset", 7, x.errorOffset());
        Parse.feed(x, "hours 22;hours 22;");
        x.truncateInput(9);
        Check.same("cut behind a command", 1, x.play());
    }

    private static void fullBuffer() {
        TollTrees x = Check.loaded(HEAD);
        String most = "build g;".repeat(87);
        Check.same("700 bytes", 87, Parse.play(x, most + "    "));
        Check.same("700 bytes, a command at the end", 87, Parse.play(x, "    " + most));
        for (String end : new String[] {"h", "7", "  ", "  h", "haha"}) {
            String text = (most + "            ").substring(0, 700 - end.length()) + end;
            Check.same("700 bytes, " + end, end.isBlank() ? 87 : NONE, Parse.play(x, text));
            Check.same("700 bytes, " + end + ": offset", end.isBlank() ? NONE : 700 - end.trim().length(), x.errorOffset());
        }
        Check.same("700 spaces", 0, Parse.play(x, " ".repeat(700)));
        Check.same("700 semicolons", NONE, Parse.play(x, ";".repeat(700)));
        Check.same("700 letters", NONE, Parse.play(x, "build " + "g".repeat(694)));
        Check.same("700 letters: offset", 6, x.errorOffset());
        Check.same("700 digits", NONE, Parse.play(x, "limit g " + "9".repeat(692)));
        Check.same("700 digits: code", 2, x.errorCode());
        Check.same("700 digits with a semicolon", 1, Parse.play(x, "limit g " + "0".repeat(690) + "7;"));
        Check.same("700 digits: limit", 7, x.costLimit(0));
        Check.same("700 bytes without an end", NONE, Parse.play(x, "limit g " + "0".repeat(692)));
        Check.same("700 bytes without an end: offset", 700, x.errorOffset());
    }

    private static void failedTexts() {
        Start start = LOADED.then(x -> x.advanceClock(1));
        String commands = "hours 9;pass h c 3;toll c 8;halve h;limit h 0;build ";
        Parse.wrong(start, 1, commands + "h^", false);
        Parse.wrong(start, 3, HEAD + commands + "^k;", true);
        Start failed = start.then(x -> Parse.play(x, commands)).then(x -> Parse.load(x, HEAD + commands));
        Check.same("undo after failures", Seen.state(LOADED), Seen.state(failed.then(x -> x.undo())));
    }
}
