/** Promises 59 to 63: consistency, averages and the output. */
public final class OutputTest {
    private static final int NONE = TollTrees.NONE;
    private static final int MIN = Integer.MIN_VALUE;
    private static final int MAX = Integer.MAX_VALUE;

    public static void main(String[] args) {
        inconsistencies();
        meanPathCost();
        correctShare();
        writeTree();
        longestOutput();
        outputByte();
        outputIsKept();
        Check.finish("OutputTest");
    }

    private static void inconsistencies() {
        TollTrees x = new TollTrees();
        Check.same("new", 0, x.inconsistencies());
        x.passCarts(1, 2, 500);
        x.passCarts(1, 3, 999);
        Check.same("passed", 0, x.inconsistencies());
        x.setToll(2, 8);
        x.setToll(3, 1);
        x.passCarts(1, 2, 7);
        x.passCarts(1, 3, 7);
        Check.same("charged otherwise", 0, x.inconsistencies());
        x.setToll(0, 99);
        x.passCarts(1, 0, 9);
        Check.same("undercharged", 9 * 97, x.undercharge());
        Check.same("undercharged", 0, x.inconsistencies());
        x.halveCounts(0);
        x.setCostLimit(0, 1);
        x.buildTree(0);
        Check.same("built", 0, x.inconsistencies());
        Parse.load(x, "tolls;ask a 1;cart c 1;gate g 1 1 1 0;");
        Check.same("loaded", 0, x.inconsistencies());
    }

    private static void meanPathCost() {
        TollTrees x = new TollTrees();
        Check.same("north", 2.5, x.meanPathCost(0));
        Check.same("south", 2.0, x.meanPathCost(1));
        x.halveCounts(0);
        Check.same("halves", (2.0 * 20 + 2 * 12 + 4 * 5 + 4 * 7 + 2 * 5) / 49.0, x.meanPathCost(0));
        Parse.play(x, "halve north;halve north;halve north;halve north;halve north;");
        Check.same("no carts", 0.0, x.meanPathCost(0));
        TollTrees y = Check.loaded("tolls;ask a 1;cart c 1 a;cart d 2;cart e 2;gate g 1 1 1 1 1 1;gate h 1 1 0 1 1 1;");
        Check.same("all asked", 1.0, y.meanPathCost(0));
        Check.same("none asked", 0.0, y.meanPathCost(1));
        TollTrees z = Check.loaded("tolls;ask a 1;ask b 1;cart c 1 a;cart d 2 b;cart e 3;gate g 1 1 9 1 1 1;");
        Check.same("a third", 5.0 / 3.0, z.meanPathCost(0));
    }

    private static void correctShare() {
        TollTrees x = new TollTrees();
        Check.same("no cart", 1.0f, x.correctShare());
        x.passCarts(1, 2, 4);
        Check.same("none right", 0.0f, x.correctShare());
        x.passCarts(1, 1, 10);
        Check.same("10 of 14", 10.0f / 14.0f, x.correctShare());
        x.setToll(3, 99);
        x.passCarts(1, 3, 7);
        Check.same("10 of 21", 10.0f / 21.0f, x.correctShare());
        x.undo();
        x.undo();
        x.undo();
        x.undo();
        Check.same("undone", 1.0f, x.correctShare());
        x.passCarts(1, 1, 999);
        Check.same("all right", 1.0f, x.correctShare());
    }

    private static void writeTree() {
        TollTrees x = new TollTrees();
        Check.due("north's length", 42, () -> x.writeTree(0));
        Check.same("north", "wheels(beast(load(=9,=7),=5),beast(=3,=2))", Check.written(x, 0));
        Check.due("south's length", 33, () -> x.writeTree(1));
        Check.same("south", "wheels(beast(=9,=5),beast(=3,=2))", Check.written(x, 1));
        Check.same("replaced", NONE, x.outputByte(33));
        Parse.load(x, "tolls;ask a 1;cart c 0;cart d 9 a;gate e 1 1 0 2 1;gate f 1 1 0 1 2;gate g 1 1 1 1 1;");
        Check.same("toll 0", "=0", Check.written(x, 0));
        Check.same("toll 9", "=9", Check.written(x, 1));
        Check.same("both", "a(=9,=0)", Check.written(x, 2));
        x.setToll(0, 10);
        x.setToll(1, 99);
        Check.same("the tree's own tolls", "a(=9,=0)", Check.written(x, 2));
        x.buildTree(2);
        Check.same("two digits", "a(=99,=10)", Check.written(x, 2));
        Check.same("length", 10, x.writeTree(2));
        Check.same("writing is no change", 4, x.undoableChanges());
    }

    private static void longestOutput() {
        TollTrees x = Check.loaded("tolls;ask aaaaaa 1;ask bbbbbb 1;ask cccccc 1;ask dddddd 1;ask eeeeee 1;ask ffffff 1;"
            + "cart a 10 aaaaaa;cart b 11 bbbbbb;cart c 12 cccccc;cart d 13 dddddd;cart e 14 eeeeee;cart f 15 ffffff;"
            + "cart g 16;cart h 17 aaaaaa bbbbbb;gate z 0 23 30 9000 4000 2000 1000 500 200 100 50;");
        String want = "aaaaaa(bbbbbb(=17,=10),bbbbbb(=11,cccccc(=12,dddddd(=13,eeeeee(=14,ffffff(=15,=16))))))";
        Check.due("longest", 87, () -> x.writeTree(0));
        Check.same("longest", want, Check.written(x, 0));
        Check.same("longest: last byte", 41, x.outputByte(86));
        Check.same("longest: behind it", NONE, x.outputByte(87));
    }

    private static void outputByte() {
        TollTrees x = new TollTrees();
        for (int i : new int[] {-1, 0, 1, 41, MIN, MAX}) {
            Check.same("no output: " + i, NONE, x.outputByte(i));
        }
        x.writeTree(0);
        Check.same("first", 119, x.outputByte(0));
        Check.same("parenthesis", 40, x.outputByte(6));
        Check.same("equals sign", 61, x.outputByte(18));
        Check.same("digit", 57, x.outputByte(19));
        Check.same("comma", 44, x.outputByte(20));
        Check.same("last", 41, x.outputByte(41));
        for (int i : new int[] {-1, 42, 43, 87, 88, 1000, MIN, MAX}) {
            Check.same("no such byte: " + i, NONE, x.outputByte(i));
        }
    }

    private static void outputIsKept() {
        TollTrees x = new TollTrees();
        x.writeTree(1);
        Check.outside("writeTree(2)", () -> x.writeTree(2));
        x.setCostLimit(1, 0);
        x.buildTree(1);
        x.undo();
        Parse.play(x, "limit south 0;build south;");
        Parse.load(x, "nonsense");
        x.save(0);
        x.restore(0);
        StringBuilder kept = new StringBuilder();
        for (int i = 0; x.outputByte(i) != NONE; i++) {
            kept.append((char) x.outputByte(i));
        }
        Check.same("kept", "wheels(beast(=9,=5),beast(=3,=2))", kept.toString());
    }
}
