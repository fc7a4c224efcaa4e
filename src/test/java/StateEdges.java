/** The edges of promises 17 to 39: questions, cart types, gates, the clock and the totals. */
final class StateEdges {
    private static final int NONE = TollTrees.NONE;
    private static final int MIN = Integer.MIN_VALUE;
    private static final int MAX = Integer.MAX_VALUE;

    private StateEdges() {
    }

    static void run() {
        sizes();
        clock();
        questionCost();
        hasTrait();
        toll();
        countAt();
        costLimit();
        isOpen();
        hoursUntilOpen();
        nameBytes();
        cartsPassed();
        costAsked();
        tollsPaidAndDue();
        overAndUnder();
        greatestTotals();
    }

    private static void sizes() {
        Start busy = Start.busy(Texts.setup(6, 8, 4));
        for (int n = 1; n <= 8; n++) {
            int questions = Math.min(n, 6);
            int types = n;
            int gates = Math.min(n, 4);
            Start start = busy.then(x -> Parse.load(x, Texts.setup(questions, types, gates)));
            Doc.about(17, "Returns the number of questions.");
            start.answers("questions", questions, x -> x.questionCount());
            start.then(x -> x.undo()).answers("questions before", 6, x -> x.questionCount());
            Doc.about(18, "Returns the number of cart types.");
            start.answers("types", types, x -> x.typeCount());
            start.then(x -> x.undo()).answers("types before", 8, x -> x.typeCount());
            Doc.about(19, "Returns the number of gates.");
            start.answers("gates", gates, x -> x.gateCount());
            start.then(x -> x.undo()).answers("gates before", 4, x -> x.gateCount());
            start.then(x -> Parse.load(x, "tolls;ask a 1;cart c 1;gate g")).answers("behind an error", gates, x -> x.gateCount());
        }
    }

    private static void clock() {
        Doc.about(20, "Returns the clock, 0 to 9999.");
        Start.NEW.answers("new", 0, x -> x.clock());
        TermEdges.LATE.then(x -> x.advanceClock(99)).answers("the latest", 9999, x -> x.clock());
        TermEdges.LATE.then(x -> Parse.load(x, Parse.HEAD)).answers("loaded", 0, x -> x.clock());
        Start.NEW.then(x -> x.advanceClock(24)).answers("not the hour of the day", 24, x -> x.clock());
    }

    private static void questionCost() {
        Doc.about(22, "Returns the cost of a question.");
        Start start = Start.loaded("tolls;ask a 9;ask b 1;ask c 8;ask d 2;ask e 1;ask f 9;cart c 1;gate g 0 0 0 1;");
        int[] costs = {9, 1, 8, 2, 1, 9};
        for (int question = 0; question < 6; question++) {
            int q = question;
            Doc.about(22, "Returns the cost.");
            start.answers("cost " + q, costs[q], x -> x.questionCost(q));
        }
    }

    private static void hasTrait() {
        Doc.about(23, "Returns true if the answer is yes.");
        Start start = Start.loaded("tolls;" + Texts.asks(6) + "cart a 1;cart b 1 qa qb;cart c 1 qa qb qc;cart d 1 qa qb qc qd;"
            + "cart e 1 qa qb qc qd qe;cart f 1 qa qb qc qd qe qf;cart g 1 qf;cart h 1 qa;gate g 0 0 0 1 1 1 1 1 1 1 1;");
        String[] yes = {"", "ab", "abc", "abcd", "abcde", "abcdef", "f", "a"};
        for (int type = 0; type < 8; type++) {
            for (int question = 0; question < 6; question++) {
                int t = type;
                int q = question;
                Doc.about(23, "Returns the answer to a question for a cart type.");
                start.answers("type " + t + ", question " + q, yes[t].indexOf('a' + q) >= 0, x -> x.hasTrait(t, q));
            }
        }
        // The answers of a station before are forgotten.
        start.then(x -> Parse.load(x, "tolls;" + Texts.asks(6) + Texts.carts(0, 8) + Texts.gates(1, 8)))
            .answers("no answer is left", false, x -> x.hasTrait(5, 5) || x.hasTrait(5, 0) || x.hasTrait(7, 0));
    }

    private static void toll() {
        Doc.about(24, "Returns the toll of a cart type.");
        Start start = Start.loaded("tolls;ask a 1;cart c 0;cart d 99;gate g 0 23 9 1 1;");
        Doc.about(24, "Returns the toll.");
        start.answers("the least", 0, x -> x.toll(0));
        start.answers("the greatest", 99, x -> x.toll(1));
        start.then(x -> x.setToll(0, 99)).answers("set", 99, x -> x.toll(0));
        start.then(x -> x.setToll(0, 99)).answers("not what it pays", 0, x -> x.chargedToll(0, 0));
    }

    private static void countAt() {
        Doc.about(25, "Returns the count of a cart type at a gate.");
        Start start = Start.loaded("tolls;ask a 1;cart c 1;cart d 2;gate g 0 23 9 0 9999;gate h 0 23 9 9999 0;");
        Doc.about(25, "Returns the count.");
        start.answers("counts", "0 9999 9999 0", x -> x.countAt(0, 0) + " " + x.countAt(0, 1) + " " + x.countAt(1, 0) + " "
            + x.countAt(1, 1));
        start.then(x -> x.passCarts(0, 1, 1)).answers("a full count", 9999, x -> x.countAt(0, 1));
        start.then(x -> x.passCarts(1, 1, 1)).answers("an empty count", 1, x -> x.countAt(1, 1));
    }

    private static void costLimit() {
        Doc.about(26, "Returns the cost limit of a gate.");
        Start start = Start.loaded("tolls;ask a 1;cart c 1;gate g 0 23 0 1;gate h 0 23 30 1;");
        Doc.about(26, "Returns the cost limit.");
        start.answers("the least", 0, x -> x.costLimit(0));
        start.answers("the greatest", 30, x -> x.costLimit(1));
        start.then(x -> x.setCostLimit(0, 30)).answers("set", 30, x -> x.costLimit(0));
        start.then(x -> x.setCostLimit(0, 30)).then(x -> x.undo()).answers("undone", 0, x -> x.costLimit(0));
    }

    /** Every pair of hours is tested by StateTest. */
    private static void isOpen() {
        Doc.about(27, "Tells whether a gate is open.");
        Doc.about(27, "Returns true if it is open at the present hour.");
        open(6, 8, 5, false, 1);
        open(6, 8, 6, true, 0);
        open(6, 8, 8, true, 0);
        open(6, 8, 9, false, 21);
        open(22, 2, 21, false, 1);
        open(22, 2, 22, true, 0);
        open(22, 2, 23, true, 0);
        open(22, 2, 24, true, 0);
        open(22, 2, 26, true, 0);
        open(22, 2, 27, false, 19);
        open(7, 7, 6, false, 1);
        open(7, 7, 7, true, 0);
        open(7, 7, 8, false, 23);
    }

    private static void open(int opening, int closing, int hour, boolean open, int wait) {
        Start start = Start.loaded("tolls;ask a 1;cart c 1;gate g " + opening + " " + closing + " 9 1;")
            .then(x -> x.advanceClock(hour));
        String what = opening + " to " + closing + " at " + hour;
        start.answers(what, open, x -> x.isOpen(0));
        start.answers("hours until " + what, wait, x -> x.hoursUntilOpen(0));
    }

    private static void hoursUntilOpen() {
        Doc.about(28, "Returns the number of hours until a gate is open.");
        Start last = Start.loaded("tolls;ask a 1;cart c 1;gate g 0 0 9 1;gate h 23 23 9 1;");
        last.answers("the longest wait", 23, x -> x.hoursUntilOpen(1));
        last.then(x -> x.advanceClock(1)).answers("the longest wait, over midnight", 23, x -> x.hoursUntilOpen(0));
        last.then(x -> x.advanceClock(23)).answers("the shortest wait, over midnight", 1, x -> x.hoursUntilOpen(0));
        last.then(x -> x.advanceClock(24)).answers("the day after", 23, x -> x.hoursUntilOpen(1));
        Doc.about(28, "Returns the number of hours; 0 if the gate is open.");
        last.answers("open", 0, x -> x.hoursUntilOpen(0));
        last.then(x -> x.advanceClock(23)).answers("open", 0, x -> x.hoursUntilOpen(1));
        for (int hours = 1; hours < 24; hours++) {
            int wait = hours;
            last.then(x -> x.advanceClock(24 - wait)).answers("wait of " + wait, wait, x -> x.hoursUntilOpen(0));
            last.then(x -> x.advanceClock(24 - wait)).then(x -> x.advanceClock(wait)).answers("behind it", true, x -> x.isOpen(0));
        }
    }

    private static void nameBytes() {
        Start start = Start.busy("tolls;ask a 1;ask z 1;ask abcdef 1;ask zyxwvu 2;cart z 1;cart a 1;cart ghijkl 1;cart mnopqr 1;"
            + "gate f 0 23 0 1 1 1 1;gate z 0 23 0 1 1 1 1;gate stuvwx 0 23 0 1 1 1 1;gate yzabcd 0 23 0 1 1 1 1;");
        String[][] names = {{"a", "z", "abcdef", "zyxwvu"}, {"z", "a", "ghijkl", "mnopqr"}, {"f", "z", "stuvwx", "yzabcd"}};
        for (int i = 0; i < 4; i++) {
            int index = i;
            Doc.about(29, "Returns a byte of the name of a question.");
            bytes(29, names[0][i], start, (x, at) -> x.questionNameByte(index, at));
            Doc.about(30, "Returns a byte of the name of a cart type.");
            bytes(30, names[1][i], start, (x, at) -> x.typeNameByte(index, at));
            Doc.about(31, "Returns a byte of the name of a gate.");
            bytes(31, names[2][i], start, (x, at) -> x.gateNameByte(index, at));
        }
        for (int at : new int[] {-1, 0, 6, MIN, MAX}) {
            Doc.about(29, "Throws `IndexOutOfBoundsException` if the question does not exist");
            start.refuses("byte " + at + " of no question", "IndexOutOfBoundsException", x -> x.questionNameByte(4, at));
            Doc.about(30, "Throws `IndexOutOfBoundsException` if the cart type does not exist");
            start.refuses("byte " + at + " of no type", "IndexOutOfBoundsException", x -> x.typeNameByte(4, at));
            Doc.about(31, "Throws `IndexOutOfBoundsException` if the gate does not exist");
            start.refuses("byte " + at + " of no gate", "IndexOutOfBoundsException", x -> x.gateNameByte(4, at));
        }
    }

    private static void bytes(int promise, String name, Start start, IndexEdges.One call) {
        for (int i = 0; i < name.length(); i++) {
            int at = i;
            Doc.about(promise, "`index`: index of the byte, from 0");
            start.answers("byte " + at + " of " + name, (int) name.charAt(at), x -> call.of(x, at));
        }
        Doc.about(promise, "Returns the byte; NONE if there is no such byte.");
        for (int at : new int[] {-1, name.length(), name.length() + 1, 6, 7, 8, 64, 256, -8, MIN, MAX}) {
            start.answers("byte " + at + " of " + name, NONE, x -> call.of(x, at));
        }
    }

    // ---- totals

    private static void cartsPassed() {
        Doc.about(32, "Returns the number of carts that passed.");
        Start start = Start.loaded("tolls;ask a 4;cart c 50;gate g 0 23 9 1;");
        start.answers("none", 0, x -> x.cartsPassed());
        start.then(x -> x.passCarts(0, 0, 1)).answers("one", 1, x -> x.cartsPassed());
        start.then(x -> x.passCarts(0, 0, 999)).answers("the most at once", 999, x -> x.cartsPassed());
        start.then(x -> {
            for (int i = 0; i < 11; i++) {
                x.passCarts(0, 0, 999);
            }
        }).answers("more than a count holds", 10989, x -> x.cartsPassed());
    }

    private static void costAsked() {
        Doc.about(33, "Returns the sum of the path costs of all carts that passed.");
        Start dear = Start.loaded("tolls;ask a 9;ask b 9;ask c 9;ask d 3;cart e 0;cart f 1 a;cart g 2 b;cart h 3 c;cart i 4 d;"
            + "gate j 0 23 30 1 1 1 1 1;gate k 0 23 0 1 1 1 1 1;");
        dear.then(x -> x.passCarts(1, 0, 999)).answers("no question", 0, x -> x.costAsked());
        dear.then(x -> x.passCarts(0, 0, 999)).answers("the dearest path", 30 * 999, x -> x.costAsked());
        dear.then(x -> x.passCarts(0, 0, 1)).then(x -> x.setCostLimit(0, 0)).then(x -> x.buildTree(0))
            .then(x -> x.passCarts(0, 0, 1)).answers("at the time when they passed", 30, x -> x.costAsked());
    }

    private static void tollsPaidAndDue() {
        Start start = Start.loaded("tolls;ask a 1;cart c 0;cart d 99 a;gate g 0 23 9 1 1;gate h 0 23 0 1 2;");
        Doc.about(34, "Returns the sum of the tolls that these carts paid.");
        start.then(x -> x.passCarts(0, 0, 999)).answers("the least toll", 0, x -> x.tollsPaid());
        start.then(x -> x.passCarts(0, 1, 999)).answers("the greatest toll", 999 * 99, x -> x.tollsPaid());
        start.then(x -> x.passCarts(1, 0, 999)).answers("paid, not due", 999 * 99, x -> x.tollsPaid());
        Doc.about(35, "Returns the sum of the tolls of their types at the time when they passed.");
        start.then(x -> x.passCarts(1, 0, 999)).answers("due, not paid", 0, x -> x.tollsDue());
        start.then(x -> x.passCarts(1, 1, 999)).answers("the greatest toll", 999 * 99, x -> x.tollsDue());
        start.then(x -> x.passCarts(0, 1, 2)).then(x -> x.setToll(1, 0)).answers("set later", 2 * 99, x -> x.tollsDue());
        start.then(x -> x.setToll(1, 98)).then(x -> x.passCarts(0, 1, 2)).answers("set before", 2 * 98, x -> x.tollsDue());
        start.then(x -> x.setToll(1, 98)).then(x -> x.passCarts(0, 1, 2)).answers("set before", 2 * 99, x -> x.tollsPaid());
    }

    /** A cart that pays as much as its toll, one more, or one less. */
    private static void overAndUnder() {
        Start start = Start.loaded("tolls;ask a 1;cart c 50;gate g 0 23 9 1;");
        int[] tolls = {0, 49, 50, 51, 99};
        int[] over = {5, 5, 0, 0, 0};
        int[] under = {0, 0, 0, 5, 5};
        int[] excess = {250, 5, 0, 0, 0};
        int[] lack = {0, 0, 0, 5, 245};
        for (int i = 0; i < tolls.length; i++) {
            int toll = tolls[i];
            Start passed = start.then(x -> x.setToll(0, toll)).then(x -> x.passCarts(0, 0, 5));
            Doc.about(36, "Returns the number of carts that paid more than the toll of their type.");
            passed.answers("50 for " + toll, over[i], x -> x.cartsOvercharged());
            Doc.about(37, "Returns the number of carts that paid less than the toll of their type.");
            passed.answers("50 for " + toll, under[i], x -> x.cartsUndercharged());
            Doc.about(38, "Returns the sum of what the overcharged carts paid in excess.");
            passed.answers("50 for " + toll, excess[i], x -> x.overcharge());
            Doc.about(39, "Returns the sum of what the undercharged carts paid too little.");
            passed.answers("50 for " + toll, lack[i], x -> x.undercharge());
        }
        Start both = start.then(x -> {
            x.setToll(0, 40);
            x.passCarts(0, 0, 3);
            x.setToll(0, 70);
            x.passCarts(0, 0, 4);
            x.setToll(0, 50);
            x.passCarts(0, 0, 9);
        });
        both.answers("both, one does not take from the other", "16 0 800 850 3 4 30 80", x -> Seen.totals(x));
    }

    private static void greatestTotals() {
        String full = "pass c b 999;".repeat(53);
        Start.Run twelve = x -> {
            for (int i = 0; i < 12; i++) {
                Parse.play(x, full);
            }
        };
        int carts = 12 * 53 * 999;
        Start low = Start.loaded("tolls;ask a 9;cart b 0;gate c 0 23 0 1;toll b 99;").then(twelve);
        Doc.about(39, "Returns the sum of what the undercharged carts paid too little.");
        low.answers("99 too little each", carts + " 0 0 " + carts * 99 + " 0 " + carts + " 0 " + carts * 99, x -> Seen.totals(x));
        Start high = Start.loaded("tolls;ask a 9;cart b 99;gate c 0 23 0 1;toll b 0;").then(twelve);
        Doc.about(38, "Returns the sum of what the overcharged carts paid in excess.");
        high.answers("99 too much each", carts + " 0 " + carts * 99 + " 0 " + carts + " 0 " + carts * 99 + " 0",
            x -> Seen.totals(x));
    }
}
