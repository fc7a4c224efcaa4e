/** Every value of every range: read in a setup, and set by a call and by its command. */
final class ValueEdges {
    private static final int NONE = TollTrees.NONE;
    private static final Start START = Start.loaded("tolls;ask a 1;cart c 2;gate g 0 23 9 0;");

    private ValueEdges() {
    }

    static void run() {
        setupNumbers();
        counts();
        passing();
        tolls();
        limits();
        hours();
    }

    private static void setupNumbers() {
        Doc.section(1, "A question has a name and a cost from 1 to 9.");
        for (int cost = 0; cost <= 99; cost++) {
            String text = "tolls;ask a " + cost + ";cart c 2;gate g 0 23 9 4;";
            boolean right = cost >= 1 && cost <= 9;
            Start.loaded(text).answers(text, right ? cost : 2, x -> right ? x.questionCost(0) : x.errorCode());
        }
        Doc.section(1, "A cart type has a name, a toll from 0 to 99, and for each question the answer yes or no.");
        for (int toll = 0; toll <= 999; toll++) {
            String text = "tolls;ask a 1;cart c " + toll + ";gate g 0 23 9 4;";
            boolean right = toll <= 99;
            Start.loaded(text).answers(text, right ? toll : 2, x -> right ? x.toll(0) : x.errorCode());
            if (right) {
                Start.loaded(text).answers(text, "=" + toll, x -> Seen.tree(x, 0));
            }
        }
        Doc.section(1, "A gate has a name, an opening hour and a closing hour from 0 to 23, a cost limit from 0 to 30,");
        for (int number = 0; number <= 99; number++) {
            int value = number;
            boolean hour = number <= 23;
            Start opens = Start.loaded("tolls;ask a 1;cart c 2;gate g " + number + " " + number + " 9 4;");
            opens.answers("both hours " + number, hour ? value : 2, x -> hour ? x.hoursUntilOpen(0) : x.errorCode());
            String head = "tolls;ask a 1;cart c 2;gate g 0 ";
            Start closes = Start.loaded(head + number + " 9 4;");
            closes.answers("closing hour " + number, hour ? "0 " + NONE : "2 " + head.length(),
                x -> x.errorCode() + " " + x.errorOffset());
            boolean limit = number <= 30;
            Start limited = Start.loaded("tolls;ask a 1;cart c 2;gate g 0 23 " + number + " 4;");
            limited.answers("limit " + number, limit ? value : 2, x -> limit ? x.costLimit(0) : x.errorCode());
        }
    }

    /** Thirty-two counts a setup. */
    private static void counts() {
        Doc.section(1, "a count from 0 to 9999 for each cart type, and a decision tree.");
        String head = "tolls;ask a 1;" + Texts.carts(0, 8);
        for (int first = 0; first <= 9999 - 31; first += 31) {
            StringBuilder text = new StringBuilder(head);
            for (int i = 0; i < 32; i++) {
                text.append(i % 8 == 0 ? "gate g" + (char) ('a' + i / 8) + " 0 23 9" : "").append(' ').append(first + i)
                    .append(i % 8 == 7 ? ";" : "");
            }
            TollTrees x = new TollTrees();
            Parse.load(x, text.toString());
            for (int i = 0; i < 32; i++) {
                Check.same("count", first + i, x.countAt(i / 8, i % 8));
            }
            for (int gate = 0; gate < 4; gate++) {
                x.halveCounts(gate);
            }
            for (int i = 0; i < 32; i++) {
                Check.same("half of " + (first + i), (first + i) / 2, x.countAt(i / 8, i % 8));
            }
        }
        for (int count = 10000; count <= 10300; count++) {
            Parse.wrong(START, 2, "tolls;ask a 1;cart c 2;gate g 0 23 9 ^" + count + ";", true);
        }
    }

    private static void passing() {
        Doc.about(8, "`number`: the number of carts, 1 to 999");
        for (int number = -99; number <= 1099; number++) {
            int carts = number;
            boolean right = number >= 1 && number <= 999;
            START.answers("pass " + number, right ? carts + " " + carts : "IllegalArgumentException", x -> {
                x.passCarts(0, 0, carts);
                return x.cartsPassed() + " " + x.countAt(0, 0);
            });
            if (number >= 0) {
                START.answers("pass g c " + number, right ? "1 0 " + carts : "-1 2 0",
                    x -> Parse.play(x, "pass g c " + carts + ";") + " " + x.errorCode() + " " + x.cartsPassed());
            }
        }
    }

    private static void tolls() {
        Doc.about(11, "`toll`: the new toll, 0 to 99");
        for (int number = -99; number <= 199; number++) {
            int toll = number;
            boolean right = number >= 0 && number <= 99;
            START.answers("toll " + number, right ? toll + " " + toll : "IllegalArgumentException", x -> {
                x.setToll(0, toll);
                return x.toll(0) + " " + x.setToll(0, 7);
            });
            if (number >= 0) {
                START.answers("toll c " + number, right ? "1 0 " + toll : "-1 2 2",
                    x -> Parse.play(x, "toll c " + toll + ";") + " " + x.errorCode() + " " + x.toll(0));
            }
        }
    }

    private static void limits() {
        Doc.about(12, "`limit`: the new cost limit, 0 to 30");
        for (int number = -99; number <= 130; number++) {
            int limit = number;
            boolean right = number >= 0 && number <= 30;
            START.answers("limit " + number, right ? limit + " " + limit : "IllegalArgumentException", x -> {
                x.setCostLimit(0, limit);
                return x.costLimit(0) + " " + x.setCostLimit(0, 7);
            });
            START.answers("best errors, limit " + number, right ? "0 0 " + NONE : "IllegalArgumentException",
                x -> x.bestErrors(0, limit) + " " + x.bestWork(0, limit) + " " + x.bestRootQuestion(0, limit));
            if (number >= 0) {
                START.answers("limit g " + number, right ? "1 0 " + limit : "-1 2 9",
                    x -> Parse.play(x, "limit g " + limit + ";") + " " + x.errorCode() + " " + x.costLimit(0));
            }
        }
    }

    private static void hours() {
        Doc.about(13, "`hours`: the number of hours, 1 to 100");
        for (int number = -99; number <= 199; number++) {
            int hours = number;
            boolean right = number >= 1 && number <= 100;
            START.answers("hours " + number, right ? "1 " + hours : "IllegalArgumentException",
                x -> x.advanceClock(hours) + " " + x.clock());
            if (number >= 0) {
                START.answers("hours " + number + " by a command", right ? "1 0 " + hours : "-1 2 0",
                    x -> Parse.play(x, "hours " + hours + ";") + " " + x.errorCode() + " " + x.clock());
            }
        }
        Doc.section(1, "The clock counts hours from 0 to 9999.");
        for (int hour = 9900; hour <= 9999; hour++) {
            int ahead = hour - 9900;
            Start late = ahead == 0 ? TermEdges.LATE : TermEdges.LATE.then(x -> x.advanceClock(ahead));
            late.answers("clock", hour, x -> x.clock());
            late.answers("to the end", ahead == 99 ? "IllegalStateException" : "9999", x -> {
                x.advanceClock(99 - ahead + (ahead == 99 ? 1 : 0));
                return "" + x.clock();
            });
            late.answers("to 10000", "IllegalStateException", x -> x.advanceClock(100 - ahead));
        }
    }
}
