import java.util.List;

/** The edges that section 4 of the terms names: the grammar, the tokens and the error codes. */
final class TextEdges {
    private static final int NONE = TollTrees.NONE;
    private static final String ONE = "tolls;ask a 1;cart c 2;gate g 0 23 9 4;";
    /** As long as the input buffer. */
    private static final String SPACES = " ".repeat(700);

    private TextEdges() {
    }

    static void run() {
        fullBuffer();
        setupAndScript();
        everyToken();
        repetitions();
        alternatives();
        traits();
        counts();
        everyByte();
        keywords();
        keywordsInTheirPlaces();
        words();
        numbers();
        spaces();
        spacesNotNeeded();
        names();
        commandsAndCalls();
        whenCommandsAreExecuted();
        firstWrongToken();
        offsets();
        lowestCode();
        syntax();
        rangesOfSetups();
        rangesOfScripts();
        rangeOfTheClock();
        unknownNames();
        duplicateNames();
        tooMany();
        notPossible();
    }

    private static void fullBuffer() {
        Doc.section(4, "The input buffer holds at most 700 bytes.");
        TollTrees x = new TollTrees();
        for (int length = 20; length <= 700; length += 20) {
            Check.same("length " + length, length, x.append(0x20202020, 0x20202020, 0x20202020, 0x20202020, 0x20202020));
        }
        Check.same("no length 720", NONE, x.append(0, 0, 0, 0, 0));
        Parse.script(0, SPACES);
        Parse.script(1, SPACES.substring(8) + "hours 1;");
        Parse.script(87, "build h;".repeat(87) + "    ");
        Parse.scriptWrongAlone(1, SPACES.substring(1) + "^;");
        Parse.scriptWrongAlone(1, SPACES.substring(7) + "hours 1^");
        Parse.setup(1, ONE + SPACES.substring(ONE.length()));
        Parse.setup(1, SPACES.substring(ONE.length()) + ONE);
        Parse.setupWrong(1, ONE + SPACES.substring(ONE.length() + 1) + "^?");
    }

    private static void setupAndScript() {
        Doc.section(4, "load() parses it as a setup, play() parses it as a script.");
        Parse.wrong(Start.NEW, 1, "^" + ONE, false);
        Parse.wrong(Start.NEW, 1, "^hours 1;", true);
        Parse.wrong(Start.NEW, 1, "^", true);
        Parse.wrong(Start.NEW, 1, "   ^", true);
        Parse.script(0, "");
        Parse.script(0, "   ");
        Parse.script(1, "hours 1;");
        Parse.setup(1, ONE);
    }

    // ---- every token of a text, replaced by what may not stand there

    /** Behind each token its kind: what else may stand there, or has another code. */
    private static final String SETUP_TOKENS = "tolls/k ;/s ask/k a/n 1/d ;/s cart/k c/n 2/d a/t ;/e gate/k g/n 0/d 23/d "
        + "9/d 4/d ;/f pass/c g/n c/n 5/d ;/s build/c g/n ;/s halve/c g/n ;/s toll/c c/n 1/d ;/s limit/c g/n 1/d ;/s "
        + "hours/c 1/d ;/s";
    private static final String SCRIPT_TOKENS = SETUP_TOKENS.substring(SETUP_TOKENS.indexOf("pass"));

    private static void everyToken() {
        for (String line : new String[] {"setup    = \"tolls\" \";\" question", "question = \"ask\" name cost",
            "cart     = \"cart\" name toll", "gate     = \"gate\" name opening closing", "script   = { command \";\" }",
            "command  = \"pass\" gate-name cart-name number |"}) {
            Doc.section(4, line);
        }
        everyToken(Start.NEW, SETUP_TOKENS.split(" "), true);
        everyToken(Start.loaded(ONE), SCRIPT_TOKENS.split(" "), false);
    }

    private static void everyToken(Start start, String[] tokens, boolean setup) {
        StringBuilder before = new StringBuilder();
        for (int i = 0; i < tokens.length; i++) {
            char kind = tokens[i].charAt(tokens[i].length() - 1);
            StringBuilder rest = new StringBuilder();
            for (int j = i + 1; j < tokens.length; j++) {
                rest.append(' ').append(tokens[j].replaceFirst("/.$", ""));
            }
            for (String other : new String[] {";", "5", "zzz", "abcdefg", "?"}) {
                int code = code(kind, other);
                if (code != 0) {
                    Parse.wrong(start, code, before + "^" + other + rest, setup);
                    Parse.wrong(start, code, before + "^" + other, setup);
                }
            }
            if (kind != 'c') {
                Parse.wrong(start, 1, before + "^", setup);
                Parse.wrong(start, 1, before + "   ^", setup);
                Parse.wrong(start, 1, before.toString().stripTrailing() + "^", setup);
            }
            before.append(tokens[i].replaceFirst("/.$", "")).append(' ');
        }
    }

    /** The code of a token in the place of one of such a kind; 0 if it may stand there. */
    private static int code(char kind, String other) {
        switch (kind + other) {
            case "s;": case "e;": case "f;": case "t;": case "d5":
                return 0;
            case "nzzz":
                // As a new name it is right; unknown names have a test of their own.
                return 0;
            case "tzzz": case "ezzz":
                return 3;
            case "f5":
                return 5;
            default:
                return 1;
        }
    }

    // ---- grammar

    private static void repetitions() {
        Doc.section(4, "Braces mean any number of repetitions.");
        Parse.script(0, "");
        Parse.script(1, "build h;");
        Parse.script(2, "build h;build h;");
        Parse.script(87, "build h;".repeat(87));
        Parse.setup(1, ONE);
        Parse.setup(1, ONE + "build g;".repeat(80));
        for (int questions = 1; questions <= 6; questions++) {
            for (int types = 1; types <= 8; types++) {
                TollTrees x = Parse.setup(types, Texts.setup(questions, types, 1 + types % 4));
                Check.same("questions", questions, x.questionCount());
                Check.same("types", types, x.typeCount());
                Check.same("gates", 1 + types % 4, x.gateCount());
            }
        }
    }

    private static void alternatives() {
        Doc.section(4, "A vertical bar separates alternatives.");
        for (String command : new String[] {"pass h c 5;", "build h;", "halve h;", "toll c 5;", "limit h 5;", "hours 5;"}) {
            Parse.script(1, command);
        }
        Parse.script(6, "hours 5;limit h 5;toll c 5;halve h;build h;pass h c 5;");
        for (String command : new String[] {"append", "load", "play", "undo", "save", "tolls", "ask", "cart", "gate"}) {
            Parse.scriptWrong(1, "hours 1;^" + (command.equals("gate") ? "gates" : command) + " h;");
        }
    }

    private static void traits() {
        Doc.section(4, "The question names of a cart are the questions that have the answer yes for it.");
        TollTrees x = Parse.setup(4, "tolls;ask a 1;ask b 1;ask c 1;cart d 1;cart e 1 a;cart f 1 c;cart g 1 c b a;"
            + "gate h 0 0 0 1 1 1 1;");
        String[] yes = {"", "a", "c", "abc"};
        for (int type = 0; type < 4; type++) {
            for (int question = 0; question < 3; question++) {
                Check.same("type " + type + ", question " + question, yes[type].indexOf('a' + question) >= 0,
                    x.hasTrait(type, question));
            }
        }
    }

    private static void counts() {
        Doc.section(4, "A gate has exactly one count for each cart type, in the order of the cart types.");
        for (int types = 1; types <= 8; types++) {
            String head = "tolls;ask a 1;" + Texts.carts(0, types);
            String gate = "gate g 0 0 0 21 22 23 24 25 26 27 28 29 30".substring(0, 12 + 3 * types);
            TollTrees x = Parse.setup(types, head + gate + ";");
            for (int type = 0; type < types; type++) {
                Check.same("count " + type + " of " + types, 21 + type, x.countAt(0, type));
            }
            Parse.setupWrong(1, head + gate.substring(0, gate.length() - 3) + "^;");
            Parse.setupWrong(5, head + gate + " ^9;");
            Parse.setupWrong(5, head + gate + " ^9");
            // The second gate is parsed as the first one.
            Parse.setupWrong(1, head + gate + ";" + gate.replace("g 0", "h 0").substring(0, gate.length() - 3) + "^;");
            Parse.setupWrong(5, head + gate + ";" + gate.replace("g 0", "h 0") + " ^9;");
        }
    }

    // ---- tokens

    private static void everyByte() {
        Doc.section(4, "A token is a word, a number or a semicolon.");
        Start start = Start.loaded(ONE);
        for (int value = 0; value < 256; value++) {
            char sign = (char) value;
            boolean digit = sign >= '0' && sign <= '9';
            String what = "hours 1" + sign + " ;";
            if (digit || sign == ' ') {
                start.then(x -> Parse.play(x, what)).answers("byte " + value, digit ? 10 + sign - '0' : 1, x -> x.clock());
            } else if (sign == ';') {
                Parse.wrong(start, 1, "hours 1; ^;", false);
            } else {
                Parse.wrong(start, 1, "hours 1^" + sign + " ;", false);
            }
            Parse.wrong(start, 1, sign == ' ' ? "  hours 1 ^" : "^" + sign, false);
            Parse.wrong(start, 1, sign == ' ' ? "tolls ^" : "^" + sign + "tolls;", true);
        }
    }

    private static final String[] KEYWORDS =
        {"tolls", "ask", "cart", "gate", "pass", "build", "halve", "toll", "limit", "hours"};

    /** Each keyword with another letter in each place, without its last one, and with one more. */
    private static void keywords() {
        Doc.section(4, "Code 1, syntax error: the token is not allowed there");
        String[] before = {"", "tolls;", "tolls;ask a 1;", "tolls;ask a 1;cart c 2;", ONE, ONE, ONE, ONE, ONE, ONE};
        for (int i = 0; i < KEYWORDS.length; i++) {
            String word = KEYWORDS[i];
            for (int at = 0; at < word.length(); at++) {
                String other = word.substring(0, at) + "x" + word.substring(at + 1);
                Parse.wrong(Start.NEW, 1, before[i] + "^" + other + " g 1;", true);
            }
            Parse.wrong(Start.NEW, 1, before[i] + "^" + word.substring(1) + " g 1;", true);
            Parse.wrong(Start.NEW, 1, before[i] + "^" + word.substring(0, word.length() - 1) + "q g 1;", true);
            Parse.wrong(Start.NEW, 1, before[i] + "^" + word + "x g 1;", true);
            Parse.wrong(Start.NEW, 1, before[i] + "^x" + word + " g 1;", true);
        }
    }

    /** Each keyword behind any number of questions, cart types and gates, and behind a command. */
    private static void keywordsInTheirPlaces() {
        Doc.section(4, "Code 1, syntax error: the token is not allowed there");
        String commands = "pass build halve toll limit hours";
        keywordsBehind("", "tolls", "");
        for (int questions = 0; questions <= 6; questions++) {
            String may = questions == 0 ? "ask" : questions < 6 ? "ask cart" : "cart";
            keywordsBehind("tolls;" + Texts.asks(questions), may, questions < 6 ? "" : "ask");
        }
        String head = "tolls;" + Texts.asks(6);
        for (int types = 1; types <= 8; types++) {
            keywordsBehind(head + Texts.carts(6, types), types < 8 ? "cart gate" : "gate", types < 8 ? "" : "cart");
        }
        head += Texts.carts(6, 8);
        for (int gates = 1; gates <= 4; gates++) {
            String may = gates < 4 ? "gate " + commands : commands;
            keywordsBehind(head + Texts.gates(gates, 8), may, gates < 4 ? "" : "gate");
            keywordsBehind(head + Texts.gates(gates, 8) + "build ga;", commands, "");
        }
    }

    /** One that may stand there is the last token of a text that ends too early; all but one of the others are not allowed. */
    private static void keywordsBehind(String before, String may, String tooMany) {
        for (String word : KEYWORDS) {
            if (List.of(may.split(" ")).contains(word)) {
                Parse.setupWrong(1, before + word + "^");
            } else {
                Parse.setupWrong(word.equals(tooMany) ? 5 : 1, before + "^" + word);
            }
        }
    }

    private static void words() {
        Doc.section(4, "A word is a maximal run of the letters a to z.");
        Parse.setup(1, "tolls;ask a 1;ask z 1;ask az 1;cart za 1 a z az;gate zz 0 0 0 1;");
        Parse.scriptWrong(1, "^buildh;");
        Parse.scriptWrong(1, "^bu ild h;");
        Parse.scriptWrong(3, "build ^hh;");
        Parse.scriptWrong(1, "build h^0;");
        for (String sign : new String[] {"`", "{", "A", "Z", "@", "[", "_", "\u00e1", "\u00fa", "\u0000"}) {
            Parse.scriptWrong(1, "build ^" + sign + ";");
            Parse.scriptWrong(1, "build h^" + sign + ";");
            Parse.setupWrong(1, "tolls;ask a^" + sign + " 1;");
            Parse.setupWrong(1, "^" + sign + "tolls;");
        }
    }

    private static void numbers() {
        Doc.section(4, "A number is a maximal run of digits, with or without leading zeros.");
        Check.same("09", 9, Parse.script(1, "hours 09;").clock());
        Check.same("90", 90, Parse.script(1, "hours 90;").clock());
        Check.same("a very long 100", 100, Parse.script(1, "hours " + "0".repeat(690) + "100;").clock());
        Check.same("a very long 0", 0, Parse.script(1, "limit h " + "0".repeat(691) + ";").costLimit(1));
        Parse.scriptWrong(1, "hours 9 ^0;");
        Parse.scriptWrong(2, "hours ^" + "0".repeat(500) + ";");
        Parse.scriptWrong(2, "hours ^" + "9".repeat(500) + ";");
        // Numbers that a counter of 8, 16, 32 or 64 bits, or one with a sign, would take for 1 or for 23.
        for (String wide : new String[] {"257", "65537", "16777217", "4294967297", "8589934593", "18446744073709551617",
            "4294967319", "340282366920938463463374607431768211457", "1000000000000000000001", "99999999999999999999"}) {
            Parse.scriptWrong(2, "hours ^" + wide + ";");
            Parse.scriptWrong(2, "limit h ^" + wide + ";");
            Parse.setupWrong(2, "tolls;ask a 1;cart c 2;gate g ^" + wide + " 1 1 1;");
        }
        for (String sign : new String[] {"/", ":", "-", "+", ".", ",", "\u00b0", "\u00b9", "\u0000"}) {
            Parse.scriptWrong(1, "hours ^" + sign + "1;");
            Parse.scriptWrong(1, "hours 1^" + sign + ";");
            Parse.scriptWrong(1, "hours 1^" + sign + "1;");
        }
    }

    private static void spaces() {
        Doc.section(4, "Spaces (byte 32) may stand before and after every token.");
        String[] texts = {"tolls ; ask a 1 ; cart c 2 a ; gate g 0 23 9 4 ; pass g c 5 ; build g ; halve g ; toll c 1 ; "
            + "limit g 1 ; hours 1 ;"};
        String want = Seen.state(new Start(x -> Parse.load(x, texts[0])));
        for (String wide : new String[] {" " + texts[0], texts[0] + " ", texts[0].replace(" ", "  "),
            "   " + texts[0].replace(" ", "    ") + "   "}) {
            Parse.setup(1, wide);
            Check.same("the same state", want, Seen.state(new Start(x -> Parse.load(x, wide))));
        }
        for (char sign : new char[] {'\t', '\n', '\r', 11, 12, 31, 33, 127, 0xa0, 0, 133}) {
            Parse.setupWrong(1, "^" + sign + ONE);
            Parse.setupWrong(1, ONE + "^" + sign);
            Parse.setupWrong(1, ONE.replaceFirst(" ", "^" + sign));
            Parse.setupWrong(1, ONE.replaceFirst(";", "^" + sign + ";"));
            Parse.setupWrong(1, ONE.replaceFirst(";", ";^" + sign));
        }
    }

    private static void spacesNotNeeded() {
        Doc.section(4, "They are needed only between two words and between two numbers.");
        String wide = "tolls ; ask a 1 ; cart c 2 a ; gate g 0 23 9 4 ; pass g c 5 ; build g ; halve g ; toll c 1 ; hours 1 ; ";
        String narrow = "tolls;ask a1;cart c2a;gate g0 23 9 4;pass g c5;build g;halve g;toll c1;hours1;";
        Parse.setup(1, narrow);
        Check.same("the same state", Seen.state(new Start(x -> Parse.load(x, wide))),
            Seen.state(new Start(x -> Parse.load(x, narrow))));
        Parse.setupWrong(1, "tolls;^aska1;");
        Parse.setupWrong(1, "tolls;ask a1;^cartc2a;");
        Parse.setupWrong(1, "tolls;ask a1;cart c2a;gate g1 2^;");
        Parse.setupWrong(2, "tolls;ask a1;cart c2a;gate g ^0239 4;");
        Parse.setupWrong(3, "tolls;ask a1;ask b1;cart c2 ^ab;");
        Parse.scriptWrong(3, "pass ^hc5;");
    }

    private static void names() {
        Doc.section(4, "A name is a word of 1 to 6 letters; keywords may be used as names.");
        TollTrees x = Parse.setup(2, "tolls;ask a 1;ask abcdef 1;cart b 1;cart bcdefg 2 abcdef a;gate c 0 23 9 1 1;"
            + "gate cdefgh 0 23 9 1 1;pass cdefgh bcdefg 1;build cdefgh;halve cdefgh;toll bcdefg 3;limit cdefgh 4;"
            + "pass c b 1;build c;halve c;toll b 1;limit c 1;");
        Check.same("six letters", 3, x.toll(1));
        Check.same("one letter", 1, x.costLimit(0));
        for (String text : new String[] {"tolls;ask ^abcdefg 1;", "tolls;ask a 1;cart ^abcdefg 1;",
            "tolls;ask a 1;cart c 1 ^abcdefg;", "tolls;ask a 1;cart c 1 a ^abcdefg;",
            "tolls;ask a 1;cart c 1;gate ^abcdefg 1 1 1 1;"}) {
            Parse.setupWrong(1, text);
        }
        for (String text : new String[] {"pass ^abcdefg c 1;", "pass h ^abcdefg 1;", "build ^abcdefg;", "halve ^abcdefg;",
            "toll ^abcdefg 1;", "limit ^abcdefg 1;"}) {
            Parse.scriptWrong(1, text);
        }
        String[] keywords = {"tolls", "ask", "cart", "gate", "pass", "build", "halve", "toll", "limit", "hours"};
        for (String word : keywords) {
            TollTrees y = Parse.setup(1, "tolls;ask " + word + " 1;cart " + word + " 2 " + word + ";gate " + word
                + " 0 23 9 4;pass " + word + " " + word + " 5;build " + word + ";halve " + word + ";toll " + word
                + " 7;limit " + word + " 8;hours 1;");
            Check.same(word + " as a cart type", 7, y.toll(0));
            Check.same(word + " as a gate", 8, y.costLimit(0));
            Check.same(word + " as a question", true, y.hasTrait(0, 0));
        }
    }

    // ---- commands

    private static void commandsAndCalls() {
        Doc.section(4, "The commands call passCarts(), buildTree(), halveCounts(), setToll(), setCostLimit() and");
        String[] commands = {"pass h d 999;", "build h;", "halve h;", "toll d 99;", "limit h 30;", "hours 100;", "pass h c 1;",
            "toll c 0;", "limit g 0;", "hours 1;"};
        Start.Run[] calls = {x -> x.passCarts(1, 1, 999), x -> x.buildTree(1), x -> x.halveCounts(1), x -> x.setToll(1, 99),
            x -> x.setCostLimit(1, 30), x -> x.advanceClock(100), x -> x.passCarts(1, 0, 1), x -> x.setToll(0, 0),
            x -> x.setCostLimit(0, 0), x -> x.advanceClock(1)};
        Start called = Start.loaded(Parse.HEAD);
        Start played = called;
        StringBuilder all = new StringBuilder();
        for (int i = 0; i < commands.length; i++) {
            String command = commands[i];
            called = called.then(calls[i]);
            played = played.then(x -> Parse.play(x, command));
            all.append(command);
            Check.same(command, Seen.state(called), Seen.state(played));
        }
        String once = all.toString();
        Check.same(once, Seen.state(called), Seen.state(Start.loaded(Parse.HEAD + once)));
    }

    private static void whenCommandsAreExecuted() {
        Doc.section(4, "A command is executed when its last token before the semicolon has been read.");
        Parse.scriptWrong(6, "pass g c ^1");
        Parse.scriptWrong(6, "pass g c ^1 2 3");
        Parse.scriptWrong(6, "pass g c ^1?");
        Parse.scriptWrong(1, "pass h c 1^");
        Parse.scriptWrong(1, "hours 1^");
        Parse.scriptWrong(1, "toll c 9^");
        Check.same("the hours before", 1, Parse.script(2, "hours 6;pass g c 1;").cartsPassed());
        Parse.scriptWrong(6, "hours 7;hours 2;pass g c ^1;");
        Check.same("the toll before", 9, Parse.script(2, "toll c 9;pass h c 1;").tollsDue());
        Check.same("the toll behind", 3, Parse.script(2, "pass h c 1;toll c 9;").tollsDue());
        Check.same("the limit before", 1, Parse.script(2, "limit h 0;build h;").nodeCount(1));
        Check.same("the limit behind", 3, Parse.script(2, "build h;limit h 0;").nodeCount(1));
    }

    // ---- errors

    private static void firstWrongToken() {
        Doc.section(4, "Parsing stops at the first wrong token.");
        Parse.scriptWrong(2, "toll c ^100;toll x 1;;");
        Parse.scriptWrong(3, "toll ^x 100;;");
        Parse.scriptWrong(6, "pass g c ^1;pass g c 0;build x;?");
        Parse.scriptWrong(1, "^?;toll c 100;");
        Parse.setupWrong(4, "tolls;ask a 1;ask ^a 0;?");
        Parse.setupWrong(5, "tolls;" + Texts.asks(6) + "^ask qa 0;");
        Parse.setupWrong(2, "tolls;ask a ^0?");
    }

    private static void offsets() {
        Doc.section(4, "The error offset is the index of the first byte of that token,");
        Parse.scriptWrongAlone(1, "^?");
        Parse.scriptWrongAlone(1, "^toolong");
        Parse.scriptWrongAlone(1, "   ^toolong   ");
        Parse.scriptWrongAlone(2, "hours   ^000");
        Parse.scriptWrongAlone(1, SPACES.substring(1) + "^?");
        Parse.scriptWrongAlone(1, SPACES.substring(400) + "^" + "z".repeat(400));
        Parse.scriptWrongAlone(2, "hours" + SPACES.substring(305) + "^" + "0".repeat(300));
        Doc.section(4, "or the length of the text if the text ends too early.");
        Parse.wrong(Start.NEW, 1, "^", true);
        Parse.wrong(Start.NEW, 1, " ^", true);
        Parse.wrong(Start.NEW, 1, SPACES + "^", true);
        Parse.scriptWrongAlone(1, "build^");
        Parse.scriptWrongAlone(1, "build ^");
        Parse.scriptWrongAlone(1, "build h^");
        Parse.scriptWrongAlone(1, "build h" + SPACES.substring(7) + "^");
        Parse.scriptWrongAlone(1, SPACES.substring(5) + "build^");
        Parse.scriptWrongAlone(1, "limit h " + "0".repeat(692) + "^");
    }

    private static void lowestCode() {
        Doc.section(4, "If several error codes apply to a token, the lowest code is reported.");
        Parse.scriptWrong(1, "build ^unknown;");
        Parse.setupWrong(1, "tolls;ask a 1;cart c 1 ^unknown;");
        Parse.setupWrong(1, "tolls;ask abcdef 1;ask ^abcdefg 1;");
        Parse.setupWrong(1, "tolls;ask abcdef 1;cart c 1 abcdef ^abcdefg;");
        Parse.setupWrong(1, "tolls;" + Texts.asks(6) + "cart c 1;^ask qg 1;");
        Parse.setupWrong(1, "tolls;ask a 1;" + Texts.carts(0, 8) + Texts.gates(1, 8) + "^cart ci 1;");
        Parse.setupWrong(1, "tolls;ask a 1;cart c 1;" + Texts.gates(4, 1) + "hours 1;^gate ge 0 0 0 1;");
        Parse.setupWrong(2, "tolls;ask a 1;cart c 1;gate g 1 1 1 1 ^10000;");
        Parse.scriptWrong(2, "pass g c ^0;");
        Parse.scriptWrong(2, "pass g c ^1000;");
    }

    private static void syntax() {
        Doc.section(4, "Code 1, syntax error: the token is not allowed there");
        Parse.setupWrong(1, "tolls;ask a 1;cart c 2;cart d 2;cart e 2;gate g 1 1 1^;");
        Parse.setupWrong(1, "tolls;ask a 1;cart c 2;cart d 2;cart e 2;gate g 1 1 1 5^;");
        Parse.setupWrong(1, "tolls;ask a 1;cart c 2;cart d 2;cart e 2;gate g 1 1 1 5 5 ^;");
        Parse.setup(3, "tolls;ask a 1;cart c 2;cart d 2;cart e 2;gate g 1 1 1 5 5 5;");
        Parse.setupWrong(1, "tolls;ask a 1;cart c 2^?");
        Parse.setupWrong(1, "tolls;ask a 1;cart ^abcdefg 2;");
        Parse.setupWrong(1, "tolls;ask a 1;cart c 2^");
    }

    private static void rangesOfSetups() {
        Doc.section(4, "Code 2, number out of range:");
        String[] fields = {"tolls;ask a ", ";cart c ", ";gate g ", " ", " ", " ", " "};
        int[] least = {1, 0, 0, 0, 0, 0, 0};
        int[] greatest = {9, 99, 23, 23, 30, 9999, 9999};
        for (int i = 0; i < fields.length; i++) {
            StringBuilder before = new StringBuilder();
            StringBuilder behind = new StringBuilder();
            for (int j = 0; j < fields.length; j++) {
                (j <= i ? before : behind).append(fields[j]).append(j == i ? "" : "1");
            }
            String head = before.toString().replace(";gate", ";cart d 1;gate");
            Parse.setupWrong(2, head + "^" + (greatest[i] + 1) + behind + ";");
            Parse.setupWrong(2, head + "^" + (greatest[i] + 1));
            Parse.setupWrong(2, head + "^0" + (greatest[i] + 1));
            String tail = (behind + ";").replace(";gate", ";cart d 1;gate");
            Parse.setup(2, head + greatest[i] + tail);
            Parse.setup(2, head + "00" + greatest[i] + tail);
            Parse.setup(2, head + least[i] + tail);
            if (least[i] == 1) {
                Parse.setupWrong(2, head + "^0" + tail);
            }
        }
    }

    private static void rangesOfScripts() {
        Doc.section(4, "the number of carts of \"pass\" is 1 to 999, the number of \"hours\" is 1 to 100");
        String[] commands = {"pass h c ", "hours "};
        int[] greatest = {999, 100};
        for (int i = 0; i < 2; i++) {
            Parse.scriptWrong(2, commands[i] + "^0;");
            Parse.scriptWrong(2, commands[i] + "^00");
            Parse.script(1, commands[i] + "1;");
            Parse.script(1, commands[i] + greatest[i] + ";");
            Parse.scriptWrong(2, commands[i] + "^" + (greatest[i] + 1) + ";");
        }
        Doc.section(4, "the other ranges are those of section 1.");
        Parse.script(1, "toll c 0;");
        Parse.script(1, "toll c 99;");
        Parse.scriptWrong(2, "toll c ^100;");
        Parse.script(1, "limit h 0;");
        Parse.script(1, "limit h 30;");
        Parse.scriptWrong(2, "limit h ^31;");
    }

    private static void rangeOfTheClock() {
        Doc.section(4, "and the clock may not exceed 9999;");
        Start late = new Start(x -> {
            Parse.load(x, Parse.HEAD);
            Parse.play(x, "hours 100;".repeat(70));
            Parse.play(x, "hours 100;".repeat(29) + "hours 1;");
        });
        late.answers("hour 9901", 9901, x -> x.clock());
        late.answers("to 9999", 9999, x -> Parse.play(x, "hours 98;") + 9998);
        late.then(x -> Parse.play(x, "hours 98;")).answers("at 9999", 9999, x -> x.clock());
        Parse.wrong(late, 2, "hours ^99;", false);
        Parse.wrong(late, 2, "hours ^100;", false);
        Parse.wrong(late, 2, "hours ^101;", false);
        Parse.wrong(late, 2, "hours 97;hours ^2;", false);
        Parse.wrong(late, 2, "hours 98;hours ^1;", false);
        late.then(x -> Parse.load(x, Parse.HEAD + "hours 100;")).answers("a setup begins anew", 100, x -> x.clock());
    }

    private static void unknownNames() {
        Doc.section(4, "Code 3, unknown name: no question, cart type or gate has the name that is required there.");
        for (String name : new String[] {"x", "aa", "c", "g", "ask", "zzzzzz"}) {
            Parse.setupWrong(3, "tolls;ask a 1;ask bb 1;cart d 1;cart c 1 ^" + name + ";");
            Parse.setupWrong(3, "tolls;ask a 1;ask bb 1;cart d 1;cart c 1 bb ^" + name);
        }
        for (String name : new String[] {"x", "hh", "gg", "a", "c", "gh", "build"}) {
            for (String command : new String[] {"pass ^" + name + " c 1;", "build ^" + name + ";", "halve ^" + name,
                "limit ^" + name + " 1;"}) {
                Parse.scriptWrong(3, command);
            }
        }
        for (String name : new String[] {"x", "cc", "dd", "a", "g", "h", "toll"}) {
            Parse.scriptWrong(3, "pass h ^" + name + " 1;");
            Parse.scriptWrong(3, "toll ^" + name + " 1;");
        }
        // Like the names of the station before, and like the first or the last letters of a name.
        Parse.scriptWrong(3, "build ^north;");
        Parse.scriptWrong(3, "toll ^mule 1;");
        Start start = Start.loaded("tolls;ask a 1;cart abcdef 2;gate bcdefa 0 23 9 4;");
        for (String name : new String[] {"a", "abcde", "bcdef", "f", "abcdee", "bbcdef"}) {
            Parse.wrong(start, 3, "toll ^" + name + " 1;", false);
        }
        for (String name : new String[] {"b", "bcdef", "cdefa", "a", "abcdef"}) {
            Parse.wrong(start, 3, "build ^" + name + ";", false);
        }
    }

    private static void duplicateNames() {
        Doc.section(4, "Code 4, duplicate name: an earlier question has the name of a new question,");
        Parse.setupWrong(4, "tolls;ask a 1;ask ^a 1;");
        Parse.setupWrong(4, "tolls;ask a 1;ask b 1;ask c 1;ask d 1;ask e 1;ask ^a 1;");
        Parse.setupWrong(4, "tolls;ask a 1;ask b 1;ask c 1;ask d 1;ask e 1;ask ^e");
        Parse.setupWrong(4, "tolls;ask abcdef 1;ask ^abcdef 1;");
        Doc.section(4, "an earlier cart type that of a new cart type,");
        Parse.setupWrong(4, "tolls;ask a 1;cart c 1;cart ^c 1;");
        Parse.setupWrong(4, "tolls;ask a 1;" + Texts.carts(0, 7) + "cart ^ca 1;");
        Parse.setupWrong(4, "tolls;ask a 1;" + Texts.carts(0, 7) + "cart ^cg 1;");
        Doc.section(4, "an earlier gate that of a new gate,");
        Parse.setupWrong(4, "tolls;ask a 1;cart c 1;" + Texts.gates(1, 1) + "gate ^ga 0 0 0 1;");
        Parse.setupWrong(4, "tolls;ask a 1;cart c 1;" + Texts.gates(3, 1) + "gate ^ga 0 0 0 1;");
        Parse.setupWrong(4, "tolls;ask a 1;cart c 1;" + Texts.gates(3, 1) + "gate ^gc 0 0 0 1;");
        Doc.section(4, "or the question was already listed for this cart type.");
        Parse.setupWrong(4, "tolls;ask a 1;cart c 1 a ^a;");
        Parse.setupWrong(4, "tolls;" + Texts.asks(6) + "cart c 1 qa qb qc qd qe qf ^qa;");
        Parse.setupWrong(4, "tolls;" + Texts.asks(6) + "cart c 1 qa qb qc qd qe qf ^qf;");
        Parse.setupWrong(4, "tolls;" + Texts.asks(6) + "cart b 1;cart c 1 qf ^qf;");
        // The same name of another kind, like names, and the same question of another cart type are fine.
        Parse.setup(2, "tolls;ask a 1;ask aa 1;ask b 1;cart a 1 a b;cart b 1 b a;gate a 0 0 0 1 1;gate b 0 0 0 1 1;");
        Parse.setup(2, "tolls;ask abcdef 1;ask abcdee 1;ask bbcdef 1;cart a 1 abcdee;cart aaaaaa 1;gate a 0 0 0 1 1;");
        // The names of the station before may be used again.
        Start.loaded(ONE).answers("the same setup again", 1, x -> Parse.load(x, ONE));
    }

    private static void tooMany() {
        Doc.section(4, "Code 5, too many: the word \"ask\" of a 7th question,");
        Parse.setup(1, "tolls;" + Texts.asks(6) + "cart c 1;gate g 0 0 0 1;");
        Parse.setupWrong(5, "tolls;" + Texts.asks(6) + "^ask qg 1;");
        Parse.setupWrong(5, "tolls;" + Texts.asks(6) + "^ask");
        Parse.setupWrong(5, "tolls;" + Texts.asks(6) + "^ask;");
        Parse.setupWrong(1, "tolls;" + Texts.asks(6) + "^asks");
        Doc.section(4, "the word \"cart\" of a 9th cart type,");
        Parse.setupWrong(5, "tolls;ask a 1;" + Texts.carts(0, 8) + "^cart ci 1;");
        Parse.setupWrong(5, "tolls;ask a 1;" + Texts.carts(0, 8) + "^cart");
        Parse.setupWrong(1, "tolls;ask a 1;" + Texts.carts(0, 8) + "^carts");
        Doc.section(4, "the word \"gate\" of a 5th gate,");
        Parse.setupWrong(5, "tolls;ask a 1;cart c 1;" + Texts.gates(4, 1) + "^gate ge 0 0 0 1;");
        Parse.setupWrong(5, "tolls;ask a 1;cart c 1;" + Texts.gates(4, 1) + "^gate");
        Parse.setupWrong(1, "tolls;ask a 1;cart c 1;" + Texts.gates(4, 1) + "^gates");
        Doc.section(4, "or a count without a cart type.");
        Parse.setupWrong(5, "tolls;ask a 1;cart c 1;gate g 0 0 0 1 ^0;");
        Parse.setupWrong(5, "tolls;ask a 1;cart c 1;gate g 0 0 0 1 ^9999;");
        Parse.setupWrong(5, "tolls;ask a 1;cart c 1;gate g 0 0 0 1 ^1 1 1");
        Parse.setupWrong(5, "tolls;ask a 1;" + Texts.carts(0, 8) + "gate g 0 0 0 1 1 1 1 1 1 1 1 ^1;");
    }

    private static void notPossible() {
        Doc.section(4, "Code 6, not possible: the number of \"pass\" if the gate is closed.");
        Parse.scriptWrong(6, "pass g c ^1;");
        Parse.scriptWrong(6, "pass g c ^999;");
        Parse.scriptWrong(6, "pass g d ^0005;");
        Start start = Start.loaded(Parse.HEAD);
        Parse.wrong(start, 6, "hours 5;pass g c ^1;", false);
        start.answers("at the opening hour", 2, x -> Parse.play(x, "hours 6;pass g c 1;"));
        start.answers("at the closing hour", 2, x -> Parse.play(x, "hours 8;pass g c 1;"));
        Parse.wrong(start, 6, "hours 9;pass g c ^1;", false);
        Parse.wrong(start, 6, "hours 29;pass g c ^1;", false);
        start.answers("at the opening hour of the next day", 2, x -> Parse.play(x, "hours 30;pass g c 1;"));
        Parse.scriptWrong(6, "pass h c 1;pass g c ^1;");
        Parse.script(3, "build g;halve g;limit g 1;");
    }
}
