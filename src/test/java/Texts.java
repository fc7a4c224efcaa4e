/** Setups of any size for the tests. */
final class Texts {
    private Texts() {
    }

    /**
     * A setup with so many questions, cart types and gates: questions qa, qb, .. of cost 1, types ca, cb, .. with the
     * tolls 10, 11, .., gates ga, gb, .. that are always open, with the cost limit 30 and counts of 1. The types differ
     * in the first three questions, as their numbers do in the lowest three bits.
     */
    static String setup(int questions, int types, int gates) {
        return "tolls;" + asks(questions) + carts(questions, types) + gates(gates, types);
    }

    static String asks(int questions) {
        StringBuilder text = new StringBuilder();
        for (int question = 0; question < questions; question++) {
            text.append("ask q").append(letter(question)).append(" 1;");
        }
        return text.toString();
    }

    static String carts(int questions, int types) {
        StringBuilder text = new StringBuilder();
        for (int type = 0; type < types; type++) {
            text.append("cart c").append(letter(type)).append(' ').append(10 + type);
            for (int question = 0; question < questions; question++) {
                if ((type >> question & 1) != 0) {
                    text.append(" q").append(letter(question));
                }
            }
            text.append(';');
        }
        return text.toString();
    }

    static String gates(int gates, int types) {
        StringBuilder text = new StringBuilder();
        for (int gate = 0; gate < gates; gate++) {
            text.append("gate g").append(letter(gate)).append(" 0 23 30").append(" 1".repeat(types)).append(';');
        }
        return text.toString();
    }

    private static char letter(int index) {
        return (char) ('a' + index);
    }
}
