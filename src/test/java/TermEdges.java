import java.util.ArrayList;
import java.util.List;

/** The edges that sections 1 to 3 of the terms name. */
final class TermEdges {
    private static final int NONE = TollTrees.NONE;
    private static final String ONE_OF_ALL = "tolls;ask a 1;cart c 2;gate g 0 23 9 4;";

    private TermEdges() {
    }

    static void run() {
        calls();
        none();
        questions();
        types();
        gates();
        gateNumbers();
        order();
        clock();
        hourOfTheDay();
        openingHours();
        nodes();
        paths();
        weights();
        bestLeaf();
        bestTree();
        preorder();
        timeOfBuilding();
        laterChanges();
        noBetterTree();
        passing();
        fullCount();
        totalsFromNothing();
    }

    private static void calls() {
        Doc.about("What it is", "An object is used for at most 512 calls after it has been made");
        TollTrees x = new TollTrees();
        for (int call = 1; call <= 511; call++) {
            x.setToll(0, call % 100);
        }
        Check.same("the 512th call", 511 % 100, x.setToll(0, 7));
        TollTrees y = new TollTrees();
        Parse.load(y, "tolls;ask a 9;cart b 99;gate c 0 23 0 1;");
        String full = "pass c b 999;".repeat(53) + " ".repeat(11);
        for (int text = 1; text <= 13; text++) {
            Check.same("full text " + text, 53, Parse.play(y, full));
        }
        Check.same("carts of all calls", 13 * 53 * 999, y.cartsPassed());
        Check.same("tolls of all calls", 13 * 53 * 999 * 99, y.tollsDue());
        Check.same("tolls paid in all calls", 13 * 53 * 999 * 99, y.tollsPaid());
    }

    private static void none() {
        Doc.section(5, "The constants: `NONE = -1`");
        Check.same("NONE", -1, TollTrees.NONE);
    }

    // ---- section 1

    private static void questions() {
        Doc.section(1, "There are 1 to 6 questions.");
        Parse.setupWrong(1, "tolls;^cart c 2;gate g 0 23 9 4;");
        Check.same("the fewest", 1, Parse.setup(1, Texts.setup(1, 1, 1)).questionCount());
        Check.same("the most", 6, Parse.setup(1, Texts.setup(6, 1, 1)).questionCount());
        Parse.setupWrong(5, "tolls;" + Texts.asks(6) + "^ask qg 1;" + Texts.carts(6, 1) + Texts.gates(1, 1));
        Doc.section(1, "A question has a name and a cost from 1 to 9.");
        Parse.setupWrong(2, "tolls;ask a ^0;cart c 2;gate g 0 23 9 4;");
        Parse.setupWrong(2, "tolls;ask a ^10;cart c 2;gate g 0 23 9 4;");
        Check.same("the least", 1, Parse.setup(1, ONE_OF_ALL).questionCost(0));
        Check.same("the greatest", 9, Parse.setup(1, ONE_OF_ALL.replace("a 1", "a 9")).questionCost(0));
        Check.same("a name", (int) 'a', Parse.setup(1, ONE_OF_ALL).questionNameByte(0, 0));
    }

    private static void types() {
        Doc.section(1, "There are 1 to 8 cart types.");
        Parse.setupWrong(1, "tolls;ask a 1;^gate g 0 23 9 4;");
        Check.same("the fewest", 1, Parse.setup(1, Texts.setup(1, 1, 1)).typeCount());
        Check.same("the most", 8, Parse.setup(8, Texts.setup(1, 8, 1)).typeCount());
        Parse.setupWrong(5, "tolls;ask a 1;" + Texts.carts(0, 8) + "^cart ci 1;" + Texts.gates(1, 9));
        Doc.section(1, "A cart type has a name, a toll from 0 to 99, and for each question the answer yes or no.");
        Parse.setupWrong(2, "tolls;ask a 1;cart c ^100;gate g 0 23 9 4;");
        Check.same("the least toll", 0, Parse.setup(1, ONE_OF_ALL.replace("c 2", "c 0")).toll(0));
        TollTrees x = Parse.setup(1, ONE_OF_ALL.replace("c 2", "c 99 a"));
        Check.same("the greatest toll", 99, x.toll(0));
        Check.same("a name", (int) 'c', x.typeNameByte(0, 0));
        Check.same("yes", true, x.hasTrait(0, 0));
        Check.same("no", false, Parse.setup(1, ONE_OF_ALL).hasTrait(0, 0));
        TollTrees y = Parse.setup(2, "tolls;" + Texts.asks(6) + "cart c 2;cart d 3 qa qb qc qd qe qf;gate g 0 23 9 4 4;");
        for (int question = 0; question < 6; question++) {
            Check.same("no to every question", false, y.hasTrait(0, question));
            Check.same("yes to every question", true, y.hasTrait(1, question));
        }
    }

    private static void gates() {
        Doc.section(1, "There are 1 to 4 gates.");
        Parse.setupWrong(1, "tolls;ask a 1;cart c 2;^");
        Parse.setupWrong(1, "tolls;ask a 1;cart c 2;^hours 1;");
        Check.same("the fewest", 1, Parse.setup(1, Texts.setup(1, 1, 1)).gateCount());
        Check.same("the most", 4, Parse.setup(1, Texts.setup(1, 1, 4)).gateCount());
        Parse.setupWrong(5, "tolls;ask a 1;cart c 2;" + Texts.gates(4, 1) + "^gate ge 0 23 9 4;");
    }

    private static void gateNumbers() {
        Doc.section(1, "A gate has a name, an opening hour and a closing hour from 0 to 23, a cost limit from 0 to 30,");
        TollTrees x = Parse.setup(1, ONE_OF_ALL.replace("0 23 9 4", "0 0 0 0"));
        Check.same("a name", (int) 'g', x.gateNameByte(0, 0));
        Check.same("the earliest hours", true, x.isOpen(0));
        Check.same("the least limit", 0, x.costLimit(0));
        Check.same("the least count", 0, x.countAt(0, 0));
        Check.same("a decision tree", 1, x.nodeCount(0));
        TollTrees y = Parse.setup(1, ONE_OF_ALL.replace("0 23 9 4", "23 23 30 9999"));
        Check.same("the latest hours", 23, y.hoursUntilOpen(0));
        Check.same("the greatest limit", 30, y.costLimit(0));
        Check.same("the greatest count", 9999, y.countAt(0, 0));
        Parse.setupWrong(2, "tolls;ask a 1;cart c 2;gate g ^24 23 30 4;");
        Parse.setupWrong(2, "tolls;ask a 1;cart c 2;gate g 23 ^24 30 4;");
        Parse.setupWrong(2, "tolls;ask a 1;cart c 2;gate g 23 23 ^31 4;");
        Parse.setupWrong(2, "tolls;ask a 1;cart c 2;gate g 23 23 30 ^10000;");
        Parse.setupWrong(2, "tolls;ask a 1;cart c 2;cart d 2;gate g 23 23 30 9999 ^10000;");
    }

    private static void order() {
        Doc.section(1, "Questions, cart types and gates are numbered from 0 in the order in which the text names them.");
        TollTrees x = Parse.setup(8, "tolls;ask f 1;ask e 2;ask d 3;ask c 4;ask b 5;ask a 6;cart h 8;cart g 7;cart f 6;"
            + "cart e 5;cart d 4;cart c 3;cart b 2;cart a 1;gate d 0 0 4 1 1 1 1 1 1 1 1;gate c 0 0 3 1 1 1 1 1 1 1 1;"
            + "gate b 0 0 2 1 1 1 1 1 1 1 1;gate a 0 0 1 1 1 1 1 1 1 1 1;");
        for (int i = 0; i < 6; i++) {
            Check.same("question " + i, 'f' - i, x.questionNameByte(i, 0));
            Check.same("cost " + i, i + 1, x.questionCost(i));
        }
        for (int i = 0; i < 8; i++) {
            Check.same("type " + i, 'h' - i, x.typeNameByte(i, 0));
            Check.same("toll " + i, 8 - i, x.toll(i));
        }
        for (int i = 0; i < 4; i++) {
            Check.same("gate " + i, 'd' - i, x.gateNameByte(i, 0));
            Check.same("limit " + i, 4 - i, x.costLimit(i));
        }
    }

    /** The clock at 9900, by ninety-nine calls. */
    static final Start LATE = new Start(x -> {
        for (int i = 0; i < 99; i++) {
            x.advanceClock(100);
        }
    });

    private static void clock() {
        Doc.section(1, "The clock counts hours from 0 to 9999.");
        Check.same("the first hour", 0, new TollTrees().clock());
        LATE.then(x -> x.advanceClock(98)).answers("hour 9998", 9998, x -> x.clock());
        LATE.then(x -> x.advanceClock(99)).answers("hour 9999", 9999, x -> x.clock());
        LATE.refuses("no hour 10000", "IllegalStateException", x -> x.advanceClock(100));
        Parse.wrong(LATE, 2, "hours ^100;", false);
        LATE.then(x -> Parse.play(x, "hours 99;")).answers("hour 9999", 9999, x -> x.clock());
    }

    private static void hourOfTheDay() {
        Doc.section(1, "The hour of the day is the clock modulo 24.");
        Start start = Start.loaded("tolls;ask a 1;cart c 2;gate g 0 0 9 4;gate h 23 23 9 4;gate i 15 15 9 4;");
        start.answers("open at 0", "true false false", x -> open(x));
        start.then(x -> x.advanceClock(23)).answers("open at 23", "false true false", x -> open(x));
        start.then(x -> x.advanceClock(24)).answers("open at 24", "true false false", x -> open(x));
        start.then(x -> x.advanceClock(25)).answers("open at 25", "false false false", x -> open(x));
        start.then(x -> x.advanceClock(47)).answers("open at 47", "false true false", x -> open(x));
        start.then(x -> x.advanceClock(48)).answers("open at 48", "true false false", x -> open(x));
        // 9999 is 416 days and 15 hours.
        Start late = new Start(x -> {
            Parse.load(x, "tolls;ask a 1;cart c 2;gate g 0 0 9 4;gate h 23 23 9 4;gate i 15 15 9 4;");
            Parse.play(x, "hours 100;".repeat(70));
            Parse.play(x, "hours 100;".repeat(29) + "hours 98;");
        });
        late.answers("open at 9998", "false false false", x -> open(x));
        late.then(x -> x.advanceClock(1)).answers("open at 9999", "false false true", x -> open(x));
        late.answers("waits at 9998", "10 9 1", x -> waits(x));
        late.then(x -> x.advanceClock(1)).answers("waits at 9999", "9 8 0", x -> waits(x));
    }

    private static String open(TollTrees x) {
        return x.isOpen(0) + " " + x.isOpen(1) + " " + x.isOpen(2);
    }

    private static String waits(TollTrees x) {
        return x.hoursUntilOpen(0) + " " + x.hoursUntilOpen(1) + " " + x.hoursUntilOpen(2);
    }

    private static void openingHours() {
        Doc.section(1, "A gate is open from its opening hour up to and including its closing hour.");
        openOnly(6, 8, "      ooo               ");
        openOnly(0, 23, "oooooooooooooooooooooooo");
        openOnly(0, 1, "oo                      ");
        openOnly(22, 23, "                      oo");
        openOnly(1, 22, " oooooooooooooooooooooo ");
        Doc.section(1, "If the closing hour is less than the opening hour, the gate is open across midnight.");
        openOnly(22, 2, "ooo                   oo");
        openOnly(23, 0, "o                      o");
        openOnly(1, 0, "oooooooooooooooooooooooo");
        openOnly(23, 22, "oooooooooooooooooooooooo");
        openOnly(13, 11, "oooooooooooo ooooooooooo");
        Doc.section(1, "If both are equal, the gate is open during that hour only.");
        openOnly(5, 5, "     o                  ");
        openOnly(0, 0, "o                       ");
        openOnly(23, 23, "                       o");
    }

    /** At each hour of a day and the first hours of the next, by each call that looks at the hours. */
    private static void openOnly(int opening, int closing, String day) {
        Start start = Start.loaded("tolls;ask a 1;cart c 2;gate g " + opening + " " + closing + " 9 4;");
        for (int clock = 0; clock < 27; clock++) {
            boolean open = day.charAt(clock % 24) == 'o';
            int hours = clock;
            Start then = hours == 0 ? start : start.then(x -> x.advanceClock(hours));
            String what = opening + " to " + closing + " at " + clock;
            then.answers(what, open, x -> x.isOpen(0));
            then.answers(what, open ? 2 : "IllegalStateException", x -> x.passCarts(0, 0, 1));
            then.answers(what, open ? 1 : NONE, x -> Parse.play(x, "pass g c 1;"));
            then.answers(what, open ? 0 : NONE, x -> x.quickestGate(0));
        }
    }

    // ---- section 2

    private static void nodes() {
        Doc.section(2, "A decision tree classifies a non-empty set of cart types.");
        TollTrees x = Parse.setup(1, ONE_OF_ALL);
        Check.same("a set of one", 1, x.typesAt(0, 0));
        Check.same("a node for a set of one", 1, x.nodeCount(0));
        TollTrees y = Parse.setup(8, Texts.setup(6, 8, 1));
        for (int node = 0; node < 15; node++) {
            boolean leaf = y.nodeQuestion(0, node) == NONE;
            Doc.section(2, "It is either a leaf or an inner node.");
            Check.same("a toll or a question at " + node, leaf, y.leafToll(0, node) != NONE);
            Check.same("yes child at " + node, leaf, y.yesChild(0, node) == NONE);
            Check.same("no child at " + node, leaf, y.noChild(0, node) == NONE);
            Doc.section(2, "An inner node has a question that splits its set into two non-empty subsets");
            Check.same("types at " + node, false, y.typesAt(0, node) == 0);
            if (!leaf) {
                int yes = y.typesAt(0, y.yesChild(0, node));
                int no = y.typesAt(0, y.noChild(0, node));
                int sayYes = new int[] {0xaa, 0xcc, 0xf0}[y.nodeQuestion(0, node)];
                Check.same("yes at " + node, y.typesAt(0, node) & sayYes, yes);
                Check.same("no at " + node, y.typesAt(0, node) & ~sayYes, no);
            }
        }
        Check.same("all yes, all no: not asked", "c(=3,=2)", written("tolls;ask a 1;ask b 1;ask c 9;"
            + "cart c 2 a;cart d 3 a c;gate g 0 23 9 4 4;"));
        Doc.section(2, "A leaf has a toll.");
        Check.same("the least toll", "=0", written(ONE_OF_ALL.replace("c 2", "c 0")));
        Check.same("the greatest toll", "=99", written(ONE_OF_ALL.replace("c 2", "c 99")));
    }

    private static String written(String setup) {
        TollTrees x = new TollTrees();
        Parse.load(x, setup);
        return Seen.tree(x, 0);
    }

    private static void paths() {
        String dear = "tolls;ask a 9;ask b 9;ask c 9;ask d 3;cart e 0;cart f 1 a;cart g 2 b;cart h 3 c;cart i 4 d;";
        Doc.section(2, "The cost of a path is the sum of the costs of the questions on it.");
        Check.same("no question", 0, Parse.setup(5, dear + "gate j 0 23 0 1 1 1 1 1;").pathCost(0, 0));
        Check.same("four questions", 30, Parse.setup(5, dear + "gate j 0 23 30 1 1 1 1 1;").pathCost(0, 0));
        Doc.section(2, "No path from the root to a leaf may cost more than the cost limit.");
        Check.same("limit 29 for 30", true, Parse.setup(5, dear + "gate j 0 23 29 1 1 1 1 1;").pathCost(0, 0) <= 29);
        String two = "tolls;ask a 3;ask b 4;cart c 1 a b;cart d 2 a;cart e 3 b;cart f 4;gate g 0 23 ";
        Check.same("nothing may be asked", "=1", written(two + "2 9 9 9 9;"));
        Check.same("one may just be asked", "a(=1,=3)", written(two + "3 9 9 9 9;"));
        Check.same("the other may not just be asked", "a(=1,=3)", written(two + "3 9 9 1 1;"));
        Check.same("the other may just be asked", "b(=1,=2)", written(two + "4 9 9 1 1;"));
        Check.same("both may not just be asked", "b(=1,=2)", written(two + "6 9 9 1 1;"));
        Check.same("both may just be asked", "a(b(=1,=2),b(=3,=4))", written(two + "7 9 9 9 9;"));
    }

    private static void weights() {
        Doc.section(2, "The weight of a cart type at a gate is its count there.");
        TollTrees x = Parse.setup(2, "tolls;ask a 1;cart c 1;cart d 2;gate g 0 23 9 4 5;gate h 0 23 9 5 4;");
        Check.same("4 and 5", 2, x.leafToll(0, 0));
        Check.same("5 and 4", 1, x.leafToll(1, 0));
        Doc.section(2, "The weight of a set is the sum of the weights of its types.");
        String nines = " 9999 9999 9999 9999 9999 9999 9999 9999;";
        TollTrees y = Parse.setup(8, "tolls;ask a 1;ask b 1;ask c 1;" + Texts.carts(0, 7) + "cart h 1 a;gate g 0 23 1" + nines);
        Check.same("work of the fullest set", 8 * 9999, y.work(0));
        TollTrees z = Parse.setup(8, "tolls;ask a 1;" + Texts.carts(0, 7) + "cart h 1 a;gate g 0 23 9 0 0 0 0 0 0 0 0;");
        Check.same("work of the emptiest set", 0, z.bestWork(0, 30));
        Doc.section(2, "The errors of a tree are the sum of the weights of all types whose own toll differs");
        Check.same("all but two", 6 * 9999, y.errors(0));
        Check.same("no weight", 0, z.errors(0));
        Check.same("not one differs", 0, Parse.setup(1, ONE_OF_ALL).errors(0));
        Doc.section(2, "The work of a tree is the sum, over its inner nodes,");
        Check.same("no inner node", 0, Parse.setup(1, ONE_OF_ALL).work(0));
        Check.same("seven inner nodes", 8 + 2 * 4 + 4 * 2, Parse.setup(8, Texts.setup(3, 8, 1)).work(0));
    }

    private static void bestLeaf() {
        String twins = "tolls;ask q 1;cart a 7;cart b 3;cart c 7;cart d 5;gate g 0 23 9 ";
        Doc.section(2, "The best leaf for a set has the toll, among the tolls of the types in the set,");
        Check.same("7 by one", "=7", written(twins + "4 6 3 0;"));
        Check.same("3 by one", "=3", written(twins + "3 7 3 0;"));
        Check.same("not a toll outside the set", "q(=1,=3)",
            written("tolls;ask q 1;cart a 1 q;cart b 3;cart c 5;gate g 0 23 9 9 1 1;"));
        Doc.section(2, "A tie goes to the lowest toll.");
        Check.same("3 and 7", "=3", written(twins + "3 6 3 0;"));
        Check.same("5 and 7", "=5", written(twins + "3 0 3 6;"));
        Check.same("all three", "=3", written(twins + "3 6 3 6;"));
        Check.same("none has weight", "=3", written(twins + "0 0 0 0;"));
        Check.same("0 is the lowest", "=0", written("tolls;ask q 1;cart a 99;cart b 0;gate g 0 23 9 1 1;"));
    }

    private static void bestTree() {
        String split = "cart c 1 a b;cart d 2;gate g 0 23 9 ";
        Doc.section(2, "The best tree for a set and a cost limit has the fewest errors.");
        Check.same("one error less", "a(=1,=2)", written("tolls;ask a 9;ask b 9;" + split + "9999 1;"));
        Doc.section(2, "A tie goes to the tree with the least work.");
        Check.same("less by one", "b(=1,=2)", written("tolls;ask a 3;ask b 2;" + split + "1 1;"));
        Check.same("no work", "=1", written("tolls;ask a 1;ask b 1;" + split + "1 0;"));
        Doc.section(2, "If there is still a tie, the best leaf goes before any inner node,");
        Check.same("no weight: a leaf", "=1", written("tolls;ask a 1;ask b 1;" + split + "0 0;"));
        Check.same("no gain below: a leaf", "a(=1,=2)", written("tolls;ask a 1;ask b 1;"
            + "cart c 1 a;cart d 2;cart e 3 b;gate g 0 23 9 5 5 0;"));
        Doc.section(2, "and an inner node with a lower question number goes before one with a higher question number.");
        Check.same("the lower question", "a(=1,=2)", written("tolls;ask a 2;ask b 2;" + split + "1 1;"));
        Check.same("the lowest that splits", "b(=1,=2)", written("tolls;ask z 2;ask b 2;ask a 2;" + split + "1 1;"));
        Doc.section(2, "The children of an inner node are the best trees for their subsets and for the cost limit minus");
        String deep = "tolls;ask a 2;ask b 3;cart c 1 a;cart d 2 b;cart e 3;gate g 0 23 ";
        Check.same("limit 5 less 2 is just enough", "a(=1,b(=2,=3))", written(deep + "5 9 5 5;"));
        Check.same("limit 4 less 2 is not", "a(=1,=2)", written(deep + "4 9 5 5;"));
    }

    private static void preorder() {
        Doc.section(2, "The nodes of a tree are numbered in preorder from 0: the root,");
        TollTrees x = Parse.setup(8, Texts.setup(3, 8, 1));
        Check.same("the root", 255, x.typesAt(0, 0));
        Check.same("the yes child of the root", 1, x.yesChild(0, 0));
        Check.same("the no child of the root", 8, x.noChild(0, 0));
        Check.same("the yes child of the yes child", 2, x.yesChild(0, 1));
        Check.same("the no child of the yes child", 5, x.noChild(0, 1));
        Check.same("the no child of the no child", 12, x.noChild(0, 8));
        Check.same("the last leaf", 14, x.noChild(0, 12));
        Check.same("the last leaf's types", 1, x.typesAt(0, 14));
        Check.same("the first leaf's types", 128, x.typesAt(0, 3));
    }

    private static void timeOfBuilding() {
        Doc.section(2, "When a gate is loaded, and when its tree is built, its tree becomes the best tree");
        String head = "tolls;ask a 1;cart c 3;cart d 4 a;gate g 0 23 0 1 2;gate h 0 23 9 1 2;";
        Check.same("loaded", "=4", written(head));
        Check.same("loaded before the commands", "=4", written(head + "limit g 9;toll c 5;pass g c 9;"));
        Check.same("built by a command", "a(=4,=3)", written(head + "limit g 9;build g;"));
        Check.same("built between commands", "=3", written(head + "pass g c 2;build g;limit g 9;toll c 5;"));
        Check.same("counts of that time", "=3", written(head + "pass g c 9;build g;halve g;"));
        Check.same("tolls of that time", "=6", written(head + "toll d 6;build g;toll d 8;"));
        Start start = Start.loaded(head);
        Start built = start.then(x -> {
            x.setCostLimit(0, 9);
            x.setToll(0, 0);
            x.passCarts(0, 1, 1);
            x.buildTree(0);
        });
        built.answers("built by a call", "a(=4,=0)", x -> Seen.tree(x, 0));
        built.answers("the other gate's stays", "a(=4,=3)", x -> Seen.tree(x, 1));
        Start.Run anew = x -> x.buildTree(1);
        Start equal = start.then(x -> x.setToll(0, 4)).then(anew);
        equal.answers("one toll", "=4", x -> Seen.tree(x, 1));
        equal.then(x -> x.setToll(0, 5)).then(anew).answers("two tolls again", "a(=4,=5)", x -> Seen.tree(x, 1));
        equal.then(x -> x.undo()).then(x -> x.undo()).then(anew).answers("undone and built", "a(=4,=3)", x -> Seen.tree(x, 1));
    }

    private static void laterChanges() {
        Doc.section(2, "Later changes of counts, tolls or the cost limit do not change the tree.");
        Start start = Start.loaded("tolls;ask a 1;cart c 3;cart d 4 a;gate g 0 23 9 1 2;");
        Start.Run[] changes = {x -> x.passCarts(0, 0, 999), x -> x.halveCounts(0), x -> x.setToll(0, 4),
            x -> x.setToll(1, 99), x -> x.setCostLimit(0, 0), x -> x.advanceClock(100),
            x -> Parse.play(x, "pass g c 999;halve g;toll c 4;limit g 0;hours 1;")};
        for (int i = 0; i < changes.length; i++) {
            start.then(changes[i]).answers("change " + i, "a(=4,=3)", x -> Seen.tree(x, 0));
            start.then(changes[i]).answers("change " + i, 3, x -> x.nodeCount(0));
        }
    }

    // ---- every tree, one by one

    /** Errors and work of every tree there is for a small station, whatever the tolls of its leaves. */
    private static void noBetterTree() {
        Doc.about("What it is", "Optimal binary decision trees for a toll tariff");
        Doc.about("Terms", "A toll station has questions, cart types and gates.");
        Doc.about("Terms", "Each gate has a decision tree.");
        Doc.about("Terms", "The gatekeeper asks the questions of the tree, and the leaf that the answers lead to");
        Doc.about("Terms", "A tree is built to make the fewest errors for the carts that are expected at the gate,");
        Doc.about("Terms", "No other tree within the cost limit of the gate is better for these carts.");
        int[] costs = {2, 3, 1};
        int[] yes = {0b01011, 0b00110, 0b11001};
        int[] tolls = {5, 3, 5, 8, 3};
        int[] counts = {7, 4, 2, 9, 5};
        TollTrees x = Parse.setup(5, "tolls;ask a 2;ask b 3;ask c 1;cart d 5 a c;cart e 3 a b;cart f 5 b;cart g 8 a c;"
            + "cart h 3 c;gate i 0 23 9 7 4 2 9 5;");
        for (int limit = 0; limit <= 7; limit++) {
            List<int[]> trees = trees(31, limit, costs, yes, tolls, counts);
            int[] best = trees.get(0);
            for (int[] tree : trees) {
                best = tree[0] < best[0] || tree[0] == best[0] && tree[1] < best[1] ? tree : best;
            }
            Check.same("fewest errors with " + limit, best[0], x.bestErrors(0, limit));
            Check.same("least work with " + limit, best[1], x.bestWork(0, limit));
            x.setCostLimit(0, limit);
            x.buildTree(0);
            Check.same("errors of the tree with " + limit, best[0], x.errors(0));
            Check.same("work of the tree with " + limit, best[1], x.work(0));
        }
    }

    private static List<int[]> trees(int set, int limit, int[] costs, int[] yes, int[] tolls, int[] counts) {
        List<int[]> trees = new ArrayList<>();
        int weight = 0;
        for (int type = 0; type < tolls.length; type++) {
            weight += (set >> type & 1) * counts[type];
        }
        for (int toll : new int[] {3, 5, 8, 0}) {
            int errors = 0;
            for (int type = 0; type < tolls.length; type++) {
                errors += tolls[type] == toll ? 0 : (set >> type & 1) * counts[type];
            }
            trees.add(new int[] {errors, 0});
        }
        for (int q = 0; q < costs.length; q++) {
            if (costs[q] > limit || (set & yes[q]) == 0 || (set & ~yes[q]) == 0) {
                continue;
            }
            for (int[] one : trees(set & yes[q], limit - costs[q], costs, yes, tolls, counts)) {
                for (int[] other : trees(set & ~yes[q], limit - costs[q], costs, yes, tolls, counts)) {
                    trees.add(new int[] {one[0] + other[0], one[1] + other[1] + costs[q] * weight});
                }
            }
        }
        return trees;
    }

    // ---- section 3

    private static void passing() {
        Doc.section(3, "When carts pass a gate, each of them pays the toll of the leaf that its type reaches.");
        Start start = Start.loaded("tolls;ask a 1;cart c 99;cart d 0 a;cart e 1;gate g 0 23 9 2 1 1;gate h 0 23 0 1 2 1;");
        start.answers("the least toll", 0, x -> x.passCarts(0, 1, 1));
        start.answers("the greatest toll", 99, x -> x.passCarts(0, 0, 1));
        start.answers("a toll of another type", 99, x -> x.passCarts(0, 2, 1));
        start.answers("at a gate that asks nothing", 0, x -> x.passCarts(1, 0, 1));
        start.then(x -> x.passCarts(0, 2, 999)).answers("each of them", 999 * 99, x -> x.tollsPaid());
        start.then(x -> x.setToll(0, 98)).answers("the leaf's toll", 99, x -> x.passCarts(0, 0, 1));
    }

    private static void fullCount() {
        Doc.section(3, "The count of the type at the gate increases by the number of carts, up to a maximum of 9999.");
        int[][] cases = {{0, 1, 1}, {0, 999, 999}, {9000, 998, 9998}, {9000, 999, 9999}, {9001, 998, 9999},
            {9001, 999, 9999}, {9998, 1, 9999}, {9998, 2, 9999}, {9999, 1, 9999}, {9999, 999, 9999}};
        for (int[] c : cases) {
            Start start = Start.loaded("tolls;ask a 1;cart c 3;cart d 4;gate g 0 23 9 " + c[0] + " 5;gate h 0 23 9 6 7;");
            start.then(x -> x.passCarts(0, 0, c[1])).answers(c[0] + " and " + c[1], c[2], x -> x.countAt(0, 0));
            start.then(x -> Parse.play(x, "pass g c " + c[1] + ";")).answers(c[0] + " and " + c[1] + " by a command", c[2],
                x -> x.countAt(0, 0));
            start.then(x -> x.passCarts(0, 0, c[1])).answers("another type and another gate", "5 6 7",
                x -> x.countAt(0, 1) + " " + x.countAt(1, 0) + " " + x.countAt(1, 1));
            start.then(x -> x.passCarts(0, 0, c[1])).answers("carts that passed", c[1], x -> x.cartsPassed());
        }
        Start half = Start.loaded("tolls;ask a 1;cart c 3;gate g 0 23 9 9999;").then(x -> {
            x.passCarts(0, 0, 999);
            x.halveCounts(0);
        });
        half.answers("what is above the maximum is lost", 4999, x -> x.countAt(0, 0));
    }

    private static void totalsFromNothing() {
        Doc.section(3, "The totals start at 0 when a text is loaded and add up what the carts were asked,");
        String zeros = "0 0 0 0 0 0 0 0";
        String setup = "tolls;ask a 2;cart c 3;cart d 4 a;cart e 5 a;gate g 0 23 9 1 2 1;";
        Start.NEW.answers("new", zeros, x -> Seen.totals(x));
        Start start = Start.loaded(setup);
        start.answers("loaded", zeros, x -> Seen.totals(x));
        Start passed = start.then(x -> {
            x.passCarts(0, 0, 1);
            x.passCarts(0, 2, 10);
            x.setToll(1, 0);
            x.passCarts(0, 1, 100);
        });
        passed.answers("added up", "111 222 443 53 100 10 400 10", x -> Seen.totals(x));
        passed.then(x -> Parse.load(x, setup)).answers("loaded again", zeros, x -> Seen.totals(x));
        passed.then(x -> Parse.load(x, setup + "pass g d 1;")).answers("loaded with a command", "1 2 4 4 0 0 0 0",
            x -> Seen.totals(x));
        String pass = "pass g c 1;toll c 2;pass g c 1;toll d 5;pass g d 1;";
        passed.then(x -> Parse.play(x, pass)).then(x -> Parse.load(x, setup)).answers("loaded behind a script", zeros,
            x -> Seen.totals(x));
        Start.loaded(setup + pass).then(x -> Parse.load(x, setup)).answers("loaded behind commands", zeros, x -> Seen.totals(x));
        passed.then(x -> Parse.play(x, "")).then(x -> Parse.load(x, setup)).answers("loaded behind no command", zeros,
            x -> Seen.totals(x));
        passed.then(x -> Parse.load(x, "tolls;")).answers("loaded with an error", "111 222 443 53 100 10 400 10",
            x -> Seen.totals(x));
    }
}
