/** Promises 40 to 51: the present tree of a gate. */
public final class TreeTest {
    public static void main(String[] args) {
        firstTrees();
        leaves();
        types();
        singleLeaf();
        errorsAndWork();
        treeStaysWhenAllElseChanges();
        bestLeaf();
        tiesOfRoots();
        tiesWithLeaves();
        ordinaryChoices();
        costLimits();
        deepTree();
        reasons();
        Check.finish("TreeTest");
    }

    /** north: wheels(beast(load(=9,=7),=5),beast(=3,=2)). */
    private static void firstTrees() {
        TollTrees x = new TollTrees();
        int[][] north = {{0, -1, 1, 6, 31}, {2, -1, 2, 5, 14}, {1, -1, 3, 4, 12}, {-1, 9, -1, -1, 8},
            {-1, 7, -1, -1, 4}, {-1, 5, -1, -1, 2}, {2, -1, 7, 8, 17}, {-1, 3, -1, -1, 16}, {-1, 2, -1, -1, 1}};
        int[][] south = {{0, -1, 1, 4, 31}, {2, -1, 2, 3, 14}, {-1, 9, -1, -1, 12}, {-1, 5, -1, -1, 2},
            {2, -1, 5, 6, 17}, {-1, 3, -1, -1, 16}, {-1, 2, -1, -1, 1}};
        nodes(x, 0, north);
        nodes(x, 1, south);
    }

    private static void nodes(TollTrees x, int gate, int[][] want) {
        Check.same("nodeCount " + gate, want.length, x.nodeCount(gate));
        for (int node = 0; node < want.length; node++) {
            String what = " of node " + node + " at gate " + gate;
            Check.same("question" + what, want[node][0], x.nodeQuestion(gate, node));
            Check.same("toll" + what, want[node][1], x.leafToll(gate, node));
            Check.same("yes child" + what, want[node][2], x.yesChild(gate, node));
            Check.same("no child" + what, want[node][3], x.noChild(gate, node));
            Check.same("types" + what, want[node][4], x.typesAt(gate, node));
        }
    }

    private static void leaves() {
        TollTrees x = new TollTrees();
        int[][] leaf = {{8, 5, 4, 3, 7}, {6, 3, 2, 2, 5}};
        int[][] paid = {{2, 5, 7, 9, 3}, {2, 5, 9, 9, 3}};
        int[][] cost = {{2, 2, 4, 4, 2}, {2, 2, 2, 2, 2}};
        for (int gate = 0; gate < 2; gate++) {
            for (int type = 0; type < 5; type++) {
                String what = " of type " + type + " at gate " + gate;
                Check.same("leaf" + what, leaf[gate][type], x.leafOf(gate, type));
                Check.same("charged" + what, paid[gate][type], x.chargedToll(gate, type));
                Check.same("cost" + what, cost[gate][type], x.pathCost(gate, type));
            }
        }
    }

    private static void types() {
        TollTrees x = Check.loaded("tolls;ask a 2;ask b 3;cart c 1;cart d 2 a;cart e 3 b;cart f 4 a b;cart g 5;cart h 6 a;"
            + "cart i 7 b;cart j 8 a b;gate k 0 23 30 1 1 1 1 1 1 1 1;");
        Check.same("types of the root", 255, x.typesAt(0, 0));
        int root = x.nodeQuestion(0, 0);
        Check.same("types of yes", root == 0 ? 0xaa : 0xcc, x.typesAt(0, x.yesChild(0, 0)));
        Check.same("types of no", root == 0 ? 0x55 : 0x33, x.typesAt(0, x.noChild(0, 0)));
        Check.same("twins share a leaf", x.leafOf(0, 3), x.leafOf(0, 7));
        Check.same("twins' types", 0x88, x.typesAt(0, x.leafOf(0, 7)));
        Check.same("cost of both questions", 5, x.pathCost(0, 7));
    }

    private static void singleLeaf() {
        TollTrees x = Check.loaded("tolls;ask a 2;cart c 0;gate k 0 23 0 7;");
        nodes(x, 0, new int[][] {{-1, 0, -1, -1, 1}});
        Check.same("leaf", 0, x.leafOf(0, 0));
        Check.same("charged", 0, x.chargedToll(0, 0));
        Check.same("cost", 0, x.pathCost(0, 0));
        Check.same("errors", 0, x.errors(0));
        Check.same("work", 0, x.work(0));
    }

    private static void errorsAndWork() {
        TollTrees x = new TollTrees();
        Check.same("errors", 0, x.errors(0));
        Check.same("work", 100 + 50 + 2 * 25 + 50, x.work(0));
        Check.same("errors", 5, x.errors(1));
        Check.same("work", 100 + 85 + 15, x.work(1));
        x.passCarts(1, 3, 2);
        Check.same("errors after a right charge", 5, x.errors(1));
        Check.same("work after it", 204, x.work(1));
        x.passCarts(1, 2, 1);
        Check.same("errors after a wrong charge", 6, x.errors(1));
        Check.same("work after it", 206, x.work(1));
        x.setToll(2, 9);
        Check.same("errors after a toll", 0, x.errors(1));
        x.setToll(1, 6);
        Check.same("errors after a toll", 50, x.errors(1));
        Check.same("errors at the other gate", 10 + 25, x.errors(0));
        Check.same("work needs no tolls", 206, x.work(1));
        x.halveCounts(1);
        Check.same("errors of halves", 25, x.errors(1));
        Check.same("work of halves", 2 * (2 + 25 + 3 + 16 + 5), x.work(1));
    }

    private static void treeStaysWhenAllElseChanges() {
        TollTrees x = new TollTrees();
        String before = Check.written(x, 1);
        x.passCarts(1, 2, 999);
        x.setToll(3, 1);
        x.setCostLimit(1, 0);
        x.halveCounts(1);
        x.advanceClock(9);
        Parse.play(x, "pass south coach 999;toll wagon 2;limit south 30;halve south;hours 1;");
        Check.same("tree", before, Check.written(x, 1));
        Check.same("charged", 9, x.chargedToll(1, 3));
        Check.same("leaf toll", 9, x.leafToll(1, 2));
        Parse.play(x, "build south;");
        Check.same("another tree", false, before.equals(Check.written(x, 1)));
        Check.same("another tree", "load(beast(=2,=5),wheels(=7,beast(=3,=2)))", Check.written(x, 1));
    }

    private static String tree(String setup) {
        return Check.written(Check.loaded(setup), 0);
    }

    /** Types that no question tells apart share a leaf. */
    private static void bestLeaf() {
        String head = "tolls;ask q 1;cart a 7;cart b 3;cart c 7;cart d 5;";
        Check.same("greatest sum", "=7", tree(head + "gate g 0 23 30 3 5 3 4;"));
        Check.same("a tie: the lowest toll", "=3", tree(head + "gate g 0 23 30 3 6 3 5;"));
        Check.same("a tie: the lowest toll", "=5", tree(head + "gate g 0 23 30 3 5 3 6;"));
        Check.same("no weight: the lowest toll", "=3", tree(head + "gate g 0 23 30 0 0 0 0;"));
        Check.same("one weight", "=7", tree(head + "gate g 0 23 30 0 0 1 0;"));
        String apart = "tolls;ask q 1;cart a 1 q;cart b 3;cart c 7;cart d 5;";
        Check.same("only tolls of the set", "q(=1,=5)", tree(apart + "gate g 0 23 30 9 0 0 1;"));
        Check.same("only tolls of the set", "q(=1,=7)", tree(apart + "gate g 0 23 30 9 4 5 2;"));
    }

    private static void tiesOfRoots() {
        String carts = "cart a 1 x y;cart b 2;gate g 0 23 30 5 5;";
        Check.same("same cost: the lower question", "y(=1,=2)", tree("tolls;ask y 2;ask x 2;" + carts));
        Check.same("less work", "x(=1,=2)", tree("tolls;ask y 3;ask x 2;" + carts));
        Check.same("less work", "y(=1,=2)", tree("tolls;ask y 2;ask x 3;" + carts));
        Check.same("the lower question of three", "w(=2,=1)",
            tree("tolls;ask v 3;ask w 2;ask x 2;cart a 1 x v;cart b 2 w;gate g 0 23 30 5 5;"));
        Check.same("both orders do: the lower question", "a(b(=1,=2),b(=3,=4))",
            tree("tolls;ask a 1;ask b 1;cart c 1 a b;cart d 2 a;cart e 3 b;cart f 4;gate g 0 23 2 5 5 5 5;"));
        Check.same("a tie in a child", "a(=1,b(=2,=3))",
            tree("tolls;ask a 1;ask b 1;ask c 1;cart d 1 a;cart e 2 b c;cart f 3;gate g 0 23 2 9 5 5;"));
    }

    private static void tiesWithLeaves() {
        Check.same("no carts: no work", "=1", tree("tolls;ask a 1;cart b 1 a;cart c 2;gate g 0 23 30 0 0;"));
        Check.same("fewer errors", "a(=1,=2)", tree("tolls;ask a 9;cart b 1 a;cart c 2;gate g 0 23 30 9999 1;"));
        Check.same("one toll", "=4", tree("tolls;ask a 1;cart b 4 a;cart c 4;gate g 0 23 30 5 5;"));
        Check.same("one toll has carts", "=1", tree("tolls;ask a 1;cart b 1 a;cart c 2;gate g 0 23 30 5 0;"));
        Check.same("a leaf below", "a(=1,=3)",
            tree("tolls;ask a 1;ask b 1;cart c 1 a;cart d 2;cart e 3 b;gate g 0 23 30 7 0 7;"));
    }

    private static void ordinaryChoices() {
        Check.same("errors before work", "dear(=1,=2)",
            tree("tolls;ask cheap 1;ask dear 9;cart a 1 dear cheap;cart b 2 cheap;cart c 2;gate g 0 23 9 5 5 5;"));
        Check.same("work before the question's number", "b(=3,a(=1,=2))",
            tree("tolls;ask a 2;ask b 1;cart c 1 a;cart d 2;cart e 3 b;gate g 0 23 30 1 1 9;"));
        Check.same("work below counts with its own weight", "a(=1,b(=3,=2))",
            tree("tolls;ask a 2;ask b 1;cart c 1 a;cart d 2;cart e 3 b;gate g 0 23 30 9 1 1;"));
    }

    private static void costLimits() {
        String head = "tolls;ask a 3;ask b 4;cart c 1 a b;cart d 2 a;cart e 3 b;cart f 4;gate g 0 23 ";
        Check.same("limit 0", "=1", tree(head + "0 9 9 9 9;"));
        Check.same("limit 2", "=1", tree(head + "2 9 9 9 9;"));
        Check.same("limit 3", "a(=1,=3)", tree(head + "3 9 9 9 9;"));
        Check.same("limit 4", "a(=1,=3)", tree(head + "4 9 9 9 9;"));
        Check.same("limit 4", "b(=1,=2)", tree(head + "4 9 9 1 1;"));
        Check.same("limit 3", "a(=1,=3)", tree(head + "3 9 9 1 1;"));
        Check.same("limit 6", "a(=1,=3)", tree(head + "6 9 9 9 9;"));
        Check.same("limit 7", "a(b(=1,=2),b(=3,=4))", tree(head + "7 9 9 9 9;"));
        Check.same("limit 30", "a(b(=1,=2),b(=3,=4))", tree(head + "30 9 9 9 9;"));
        String dear = "tolls;ask a 9;ask b 9;ask c 9;ask d 9;cart e 0;cart f 1 a;cart g 2 b;cart h 3 c;cart i 4 d;";
        TollTrees x = Check.loaded(dear + "gate j 0 23 30 1 1 1 1 1;");
        Check.same("three of four", "a(=1,b(=2,c(=3,=0)))", Check.written(x, 0));
        Check.same("dearest path", 27, x.pathCost(0, 0));
    }

    private static void deepTree() {
        TollTrees x = Check.loaded("tolls;ask a 1;ask b 1;ask c 1;ask d 1;ask e 1;ask f 1;cart a 10 a;cart b 11 b;"
            + "cart c 12 c;cart d 13 d;cart e 14 e;cart f 15 f;cart g 16;cart h 17 a b;"
            + "gate z 0 23 30 9000 4000 2000 1000 500 200 100 50;");
        Check.same("nodes", 15, x.nodeCount(0));
        Check.same("errors", 0, x.errors(0));
        Check.same("deep tree", "a(b(=17,=10),b(=11,c(=12,d(=13,e(=14,f(=15,=16))))))", Check.written(x, 0));
        Check.same("deep path", 6, x.pathCost(0, 6));
        Check.same("no child behind a yes subtree", 4, x.noChild(0, 0));
        Check.same("work", 16850 + 9050 + 7800 + 3800 + 1800 + 800 + 300, x.work(0));
    }

    private static void reasons() {
        TollTrees x = new TollTrees();
        Check.same("pays its own", 0, x.mischargeReason(0, 2));
        Check.same("could be split", 2, x.mischargeReason(1, 2));
        Check.same("pays its own in a leaf of two", 0, x.mischargeReason(1, 3));
        x.setToll(4, 2);
        Check.same("an old toll", 3, x.mischargeReason(0, 4));
        x.setToll(3, 7);
        x.setToll(2, 9);
        Check.same("an old toll, two types in the leaf", 2, x.mischargeReason(1, 3));
        TollTrees y = Check.loaded("tolls;ask a 9;cart c 1;cart d 2;cart e 3 a;cart f 4 a;gate g 0 23 9 5 6 8 7;"
            + "gate h 0 23 0 5 6 7 8;");
        Check.same("a twin's toll", 1, y.mischargeReason(0, 0));
        Check.same("pays its own", 0, y.mischargeReason(0, 1));
        Check.same("a twin's toll", 1, y.mischargeReason(0, 3));
        Check.same("no twin's toll", 2, y.mischargeReason(1, 0));
        Check.same("a twin's toll before a split", 1, y.mischargeReason(1, 2));
        y.setToll(1, 9);
        Check.same("a twin, but its toll has changed", 3, y.mischargeReason(0, 0));
        Check.same("its own toll has changed", 3, y.mischargeReason(0, 1));
        y.setToll(0, 2);
        Check.same("now it pays its own", 0, y.mischargeReason(0, 0));
        Check.same("now the other is its twin", 1, y.mischargeReason(0, 1));
        Parse.load(y, "tolls;ask a 9;cart c 1;cart d 2;cart e 2;gate g 0 23 9 5 6 7;");
        Parse.load(y, "tolls;ask a 9;cart c 3;cart d 2;gate g 0 23 9 5 6;");
        y.setToll(0, 4);
        y.buildTree(0);
        y.setToll(1, 3);
        Check.same("pays the toll of its twin", 2, y.chargedToll(0, 0));
        Check.same("no twin is left of an earlier setup", 3, y.mischargeReason(0, 0));
        for (int i = 0; i < 5; i++) {
            y.undo();
        }
        y.setToll(2, 2);
        y.setToll(0, 50);
        Check.same("the toll of a type with other answers", 3, y.mischargeReason(0, 0));
    }
}
