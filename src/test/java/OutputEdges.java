/** The edges of promises 59 to 63: consistency, averages and the output. */
final class OutputEdges {
    private static final int NONE = TollTrees.NONE;
    private static final int MIN = Integer.MIN_VALUE;
    private static final int MAX = Integer.MAX_VALUE;

    /** Seven inner nodes, one of them for a question of another name, six letters each. */
    private static final Start LONGEST = Start.loaded("tolls;ask aaaaaa 1;ask bbbbbb 1;ask cccccc 1;ask dddddd 1;ask eeeeee 1;"
        + "ask ffffff 1;cart a 10 aaaaaa;cart b 11 bbbbbb;cart c 12 cccccc;cart d 13 dddddd;cart e 14 eeeeee;"
        + "cart f 15 ffffff;cart g 99;cart h 17 aaaaaa bbbbbb;gate y 0 23 30 9000 4000 2000 1000 500 200 100 50;"
        + "gate z 0 23 0 0 0 0 0 0 0 0 0;");
    private static final String LONGEST_TEXT =
        "aaaaaa(bbbbbb(=17,=10),bbbbbb(=11,cccccc(=12,dddddd(=13,eeeeee(=14,ffffff(=15,=99))))))";

    /** The chain of LONGEST, down the yes children: a type says yes to all questions before the one that it says no to. */
    private static final Start YES_CHAIN = Start.loaded("tolls;ask aaaaaa 1;ask bbbbbb 1;ask cccccc 1;ask dddddd 1;"
        + "ask eeeeee 1;ask ffffff 1;cart a 10;cart b 11 aaaaaa;cart c 12 aaaaaa bbbbbb;cart d 13 aaaaaa bbbbbb cccccc;"
        + "cart e 14 aaaaaa bbbbbb cccccc dddddd;cart f 15 aaaaaa bbbbbb cccccc dddddd eeeeee;"
        + "cart g 99 aaaaaa bbbbbb cccccc dddddd eeeeee ffffff;gate y 0 23 30 9000 4000 2000 1000 500 200 100;");
    private static final String YES_CHAIN_TEXT =
        "aaaaaa(bbbbbb(cccccc(dddddd(eeeeee(ffffff(=99,=15),=14),=13),=12),=11),=10)";

    private OutputEdges() {
    }

    static void run() {
        inconsistencies();
        meanPathCost();
        correctShare();
        lengths();
        leaves();
        innerNodes();
        replaced();
        outputByte();
    }

    private static void inconsistencies() {
        Doc.about(59, "Returns the sum of these numbers, which is always 0:");
        Doc.about(59, "Returns the sum.");
        Start most = Start.loaded("tolls;ask qa 9;ask qb 9;ask qc 9;" + Texts.carts(3, 8) + "gate g 0 23 30" + " 9999".repeat(8)
            + ";gate h 0 23 0" + " 9999".repeat(8) + ";");
        Start none = Start.loaded("tolls;ask a 1;cart c 0;gate g 0 23 0 0;");
        Start passed = LONGEST.then(x -> {
            for (int type = 0; type < 8; type++) {
                x.passCarts(0, type, 999);
                x.passCarts(1, type, 999);
                x.setToll(type, 99 - type);
                x.passCarts(0, type, 999);
                x.setToll(type, 0);
                x.passCarts(0, type, 999);
            }
        });
        for (Start start : new Start[] {Start.NEW, most, none, passed, LONGEST, Start.busy(Texts.setup(6, 8, 4))}) {
            start.answers("inconsistencies", 0, x -> x.inconsistencies());
            start.keeps("inconsistencies", x -> x.inconsistencies());
            start.then(x -> x.halveCounts(0)).answers("halved", 0, x -> x.inconsistencies());
            start.then(x -> x.setCostLimit(0, 0)).then(x -> x.buildTree(0)).answers("built", 0, x -> x.inconsistencies());
        }
        passed.answers("carts were charged otherwise", true, x -> x.overcharge() > 0 && x.undercharge() > 0);
    }

    private static void meanPathCost() {
        Doc.about(60, "Returns the mean path cost at a gate, weighted by the counts.");
        Start three = Start.loaded("tolls;ask a 1;ask b 1;cart c 1 a;cart d 2 b;cart e 3;gate g 0 23 9 1 1 1;"
            + "gate h 0 23 0 1 1 1;");
        three.answers("5 of 3", 5.0 / 3.0, x -> x.meanPathCost(0));
        three.answers("no question", 0.0, x -> x.meanPathCost(1));
        three.then(x -> x.passCarts(0, 0, 4)).answers("9 of 7", 9.0 / 7.0, x -> x.meanPathCost(0));
        Doc.about(60, "Returns work(gate), converted to double, divided by the sum of the counts, converted to double; 0.0");
        LONGEST.answers("as divided", 40400.0 / 16850.0, x -> x.meanPathCost(0));
        three.then(x -> x.halveCounts(0)).answers("the sum is 0", 0.0, x -> x.meanPathCost(0));
        LONGEST.answers("the sum is 0", 0.0, x -> x.meanPathCost(1));
        LONGEST.then(x -> x.passCarts(1, 3, 1)).answers("the sum is 1", 0.0, x -> x.meanPathCost(1));
        three.then(x -> x.halveCounts(0)).then(x -> x.passCarts(0, 2, 1)).answers("the sum is 1", 2.0, x -> x.meanPathCost(0));
        Start most = Start.loaded("tolls;ask qa 9;ask qb 9;ask qc 9;" + Texts.carts(3, 8) + "gate g 0 23 30"
            + " 9999".repeat(8) + ";");
        most.answers("the greatest work", 27.0, x -> x.meanPathCost(0));
        // What a larger station before had at its gates does not count.
        Start.busy("tolls;ask a 1;cart c 1;cart d 2 a;gate ga 0 23 9 4 3;").answers("a smaller station", 1.0,
            x -> x.meanPathCost(0));
    }

    private static void correctShare() {
        Doc.about(61, "Returns the share of the passed carts that paid the toll of their type.");
        Start start = Start.loaded("tolls;ask a 1;cart c 50;gate g 0 23 9 1;");
        Start wrong = start.then(x -> x.setToll(0, 49)).then(x -> x.passCarts(0, 0, 3));
        Doc.about(61, "converted to float; 1.0f if no cart passed.");
        start.answers("no cart", 1.0f, x -> x.correctShare());
        start.then(x -> x.advanceClock(9)).answers("no cart for nine hours", 1.0f, x -> x.correctShare());
        start.then(x -> x.setToll(0, 49)).answers("no cart, which would be wrong", 1.0f, x -> x.correctShare());
        start.then(x -> x.passCarts(0, 0, 1)).answers("one right cart", 1.0f, x -> x.correctShare());
        Doc.about(61, "Returns cartsPassed() - cartsOvercharged() - cartsUndercharged(), converted to float, divided by");
        wrong.answers("no right cart", 0.0f, x -> x.correctShare());
        wrong.then(x -> x.undo()).answers("no cart again", 1.0f, x -> x.correctShare());
        start.then(x -> x.setToll(0, 51)).then(x -> x.passCarts(0, 0, 3)).answers("no right cart", 0.0f, x -> x.correctShare());
        wrong.then(x -> x.setToll(0, 50)).then(x -> x.passCarts(0, 0, 7)).answers("7 of 10", 7.0f / 10.0f, x -> x.correctShare());
        wrong.then(x -> x.setToll(0, 51)).then(x -> x.passCarts(0, 0, 2)).then(x -> x.setToll(0, 50))
            .then(x -> x.passCarts(0, 0, 1)).answers("1 of 6", 1.0f / 6.0f, x -> x.correctShare());
        wrong.then(x -> x.setToll(0, 50)).then(x -> {
            for (int i = 0; i < 60; i++) {
                x.passCarts(0, 0, 999);
            }
        }).answers("59940 of 59943", 59940.0f / 59943.0f, x -> x.correctShare());
        wrong.then(x -> Parse.load(x, Parse.HEAD)).answers("loaded", 1.0f, x -> x.correctShare());
    }

    // ---- output

    private static void lengths() {
        Doc.about(62, "Returns the length of the output.");
        Start single = Start.loaded("tolls;ask a 1;cart c 0;gate g 0 23 9 1;gate h 0 23 9 1;");
        single.answers("the shortest", 2, x -> x.writeTree(0));
        single.then(x -> x.setToll(0, 10)).then(x -> x.buildTree(0)).answers("a toll of two digits", 3, x -> x.writeTree(0));
        Start.loaded("tolls;ask a 1;cart c 1;cart d 2 a;gate g 0 23 9 1 1;").answers("one question", 8, x -> x.writeTree(0));
        LONGEST.answers("the longest", 87, x -> x.writeTree(0));
        LONGEST.answers("the longest", LONGEST_TEXT, x -> Seen.tree(x, 0));
        LONGEST.answers("twice", LONGEST_TEXT, x -> x.writeTree(0) == x.writeTree(0) ? Seen.output(x) : "");
    }

    private static void leaves() {
        Doc.about(62, "A leaf is written as an equals sign (byte 61) and its toll in decimal.");
        for (int toll = 0; toll <= 99; toll++) {
            Start leaf = Start.loaded("tolls;ask a 1;cart c " + toll + ";gate g 0 23 9 1;");
            leaf.answers("toll " + toll, "=" + toll, x -> Seen.tree(x, 0));
            leaf.then(x -> x.writeTree(0)).answers("the sign", 61, x -> x.outputByte(0));
        }
        Start.loaded("tolls;ask a 1;cart c 5;gate g 0 23 9 1;").then(x -> x.setToll(0, 99)).answers("the tree's own toll", "=5",
            x -> Seen.tree(x, 0));
    }

    private static void innerNodes() {
        Doc.about(62, "An inner node is written as the name of its question, an opening parenthesis, the yes child, a comma,");
        Start two = Start.loaded("tolls;ask zyxwvu 1;ask a 1;cart c 1 zyxwvu a;cart d 2 zyxwvu;cart e 3 a;cart f 40;"
            + "gate g 0 23 9 1 1 1 1;gate h 0 23 1 9 1 9 1;");
        two.answers("both children are inner nodes", "zyxwvu(a(=1,=2),a(=3,=40))", x -> Seen.tree(x, 0));
        two.answers("both children are leaves", "zyxwvu(=1,=3)", x -> Seen.tree(x, 1));
        two.then(x -> x.writeTree(1)).answers("an opening parenthesis", (int) '(', x -> x.outputByte(6));
        two.then(x -> x.writeTree(1)).answers("a comma", (int) ',', x -> x.outputByte(9));
        two.then(x -> x.writeTree(1)).answers("a closing parenthesis", (int) ')', x -> x.outputByte(12));
        Start.loaded("tolls;ask a 1;ask b 1;cart c 1 a b;cart d 2 a;cart e 3;gate g 0 23 9 1 1 9;").answers("a yes child",
            "a(b(=1,=2),=3)", x -> Seen.tree(x, 0));
        Start.loaded("tolls;ask a 1;ask b 1;cart c 1 b;cart d 2;cart e 3 a;gate g 0 23 9 1 1 9;").answers("a no child",
            "a(=3,b(=1,=2))", x -> Seen.tree(x, 0));
        YES_CHAIN.answers("six questions down the yes children", YES_CHAIN_TEXT, x -> Seen.tree(x, 0));
        YES_CHAIN.answers("its length", YES_CHAIN_TEXT.length(), x -> x.writeTree(0));
        Doc.about(62, "There are no spaces.");
        LONGEST.answers("spaces", -1, x -> Seen.tree(x, 0).indexOf(' '));
    }

    private static void replaced() {
        Doc.about(62, "Writes the tree of a gate to the output and replaces the previous output.");
        Start shorter = LONGEST.then(x -> x.writeTree(0)).then(x -> x.writeTree(1));
        shorter.answers("a shorter one", "=10", x -> Seen.output(x));
        shorter.answers("nothing is left behind it", NONE, x -> x.outputByte(3));
        shorter.then(x -> x.writeTree(0)).answers("a longer one", LONGEST_TEXT, x -> Seen.output(x));
        Start busy = Start.busy(Texts.setup(3, 8, 2));
        Check.same("no other effect", Seen.state(busy), Seen.state(busy.then(x -> x.writeTree(1))));
        busy.then(x -> x.writeTree(1)).answers("is no change", 8, x -> x.undoableChanges());
        Start written = LONGEST.then(x -> x.save(1)).then(x -> x.writeTree(0));
        Start.Run[] others = {x -> x.buildTree(1), x -> x.undo(), x -> x.restore(1), x -> Parse.load(x, Parse.HEAD),
            x -> Parse.play(x, "limit y 0;build y;"), x -> Parse.load(x, "?"), x -> Parse.play(x, "?"), x -> x.setToll(0, 99),
            x -> x.save(0), x -> x.passCarts(0, 0, 9), x -> x.halveCounts(0), x -> x.setCostLimit(0, 9),
            x -> x.advanceClock(1), x -> x.bestErrors(0, 3), x -> x.append(1, 2, 3, 4, 5)};
        for (int i = 0; i < others.length; i++) {
            written.then(others[i]).answers("kept by call " + i, LONGEST_TEXT, x -> Seen.output(x));
        }
        written.then(x -> x.setCostLimit(0, 0)).then(x -> x.buildTree(0)).answers("kept when the tree is another", LONGEST_TEXT,
            x -> Seen.output(x));
    }

    private static void outputByte() {
        Doc.about(63, "Returns the byte; NONE if there is no such byte.");
        for (int index : new int[] {-1, 0, 1, 86, 87, MIN, MAX}) {
            Start.NEW.answers("no output: " + index, NONE, x -> x.outputByte(index));
        }
        Start written = LONGEST.then(x -> x.writeTree(0));
        for (int index = 0; index < 87; index++) {
            int at = index;
            Doc.about(63, "`index`: index of the byte, from 0");
            written.answers("byte " + at, (int) LONGEST_TEXT.charAt(at), x -> x.outputByte(at));
        }
        Doc.about(63, "Returns a byte of the output.");
        for (int index : new int[] {-1, -87, 87, 88, 700, MIN, MAX}) {
            written.answers("no such byte: " + index, NONE, x -> x.outputByte(index));
        }
        Start shortest = Start.loaded("tolls;ask a 1;cart c 0;gate g 0 23 9 1;").then(x -> x.writeTree(0));
        shortest.answers("the last byte", (int) '0', x -> x.outputByte(1));
        shortest.answers("behind the last byte", NONE, x -> x.outputByte(2));
        written.then(x -> fail(x)).answers("kept by a refused call", (int) ')', x -> x.outputByte(86));
    }

    private static void fail(TollTrees x) {
        try {
            x.writeTree(2);
        } catch (IndexOutOfBoundsException e) {
            // The output before stays.
        }
    }
}
