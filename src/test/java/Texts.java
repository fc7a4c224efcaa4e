/** Setups of any size for the tests. */
final class Texts {
    private Texts() {
    }

    /**
     * A setup with so many questions, cart types and gates: questions qa, qb, .. of cost 1, types ca, cb, .. with the
     * tolls 10, 11, .., gates ga, gb, .. that are always open, with the cost limit 30 and counts of 1. The types differ
     * in the first three questions, as their numbers do in the lowest three bits.
     */
    static String setup(int questions, int types, int gates) {
        return "tolls;" + asks(questions) + carts(questions, types) + gates(gates, types);
    }

    /**
     * A setup as large as can be, of the kind 0 or 1: all that is held of a question, a cart type or a gate of one kind
     * is different in the other kind. The first gates of kind 0 and the last ones of kind 1 have large trees.
     */
    static String full(int kind) {
        int[] limits = kind == 0 ? new int[] {30, 12, 3, 0} : new int[] {0, 4, 11, 29};
        StringBuilder text = new StringBuilder("tolls;");
        for (int question = 0; question < 6; question++) {
            text.append("ask q").append(letter(question)).append(letter(kind)).append(' ')
                .append((2 * question + kind) % 9 + 1).append(';');
        }
        for (int type = 0; type < 8; type++) {
            text.append("cart c").append(letter(type)).append(letter(kind)).append(' ').append(11 * type + 5 * kind);
            for (int question = 0; question < 6; question++) {
                if ((type >> question % 3 & 1) != kind) {
                    text.append(" q").append(letter(question)).append(letter(kind));
                }
            }
            text.append(';');
        }
        for (int gate = 0; gate < 4; gate++) {
            text.append("gate g").append(letter(gate)).append(letter(kind)).append(' ').append(3 * gate + 12 * kind)
                .append(' ').append((4 * gate + 8 + 5 * kind) % 24).append(' ').append(limits[gate]);
            for (int type = 0; type < 8; type++) {
                text.append(' ').append(56 * gate + 7 * type + 3 * kind + 1);
            }
            text.append(';');
        }
        return text.toString();
    }

    static String asks(int questions) {
        StringBuilder text = new StringBuilder();
        for (int question = 0; question < questions; question++) {
            text.append("ask q").append(letter(question)).append(" 1;");
        }
        return text.toString();
    }

    static String carts(int questions, int types) {
        StringBuilder text = new StringBuilder();
        for (int type = 0; type < types; type++) {
            text.append("cart c").append(letter(type)).append(' ').append(10 + type);
            for (int question = 0; question < questions; question++) {
                if ((type >> question & 1) != 0) {
                    text.append(" q").append(letter(question));
                }
            }
            text.append(';');
        }
        return text.toString();
    }

    static String gates(int gates, int types) {
        StringBuilder text = new StringBuilder();
        for (int gate = 0; gate < gates; gate++) {
            text.append("gate g").append(letter(gate)).append(" 0 23 30").append(" 1".repeat(types)).append(';');
        }
        return text.toString();
    }

    private static char letter(int index) {
        return (char) ('a' + index);
    }
}
