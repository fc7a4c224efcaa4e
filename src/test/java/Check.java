/** What the tests share: feeding texts, comparing answers, and the closing line. */
final class Check {
    interface Call {
        Object answer();
    }

    static final String FIRST_SETUP = "tolls; ask wheels 1; ask load 2; ask beast 1; cart barrow 2; "
        + "cart dray 5 wheels load; cart coach 7 wheels beast; cart wagon 9 wheels load beast; cart mule 3 beast; "
        + "gate north 6 20 9 40 25 10 15 10; gate south 0 23 2 5 50 5 30 10;";

    private static int passed = 0;
    private static int failed = 0;
    private static String about = "";

    private Check() {
    }

    /** What the next checks are about stands before what they tell. */
    static void about(String what) {
        about = what;
    }

    /** Compares the answer of a call, or the simple name of what it throws, with what is due. */
    static void due(String what, Object want, Call call) {
        Object got;
        try {
            got = call.answer();
        } catch (RuntimeException e) {
            got = e.getClass().getSimpleName();
        }
        same(what, want, got);
    }

    static void same(String what, Object want, Object got) {
        if (want.equals(got)) {
            passed++;
        } else {
            failed++;
            System.out.println(about + what + " answered " + got + ", due is " + want);
        }
    }

    static void outside(String what, Call call) {
        due(what, "IndexOutOfBoundsException", call);
    }

    static void illegal(String what, Call call) {
        due(what, "IllegalArgumentException", call);
    }

    static void notNow(String what, Call call) {
        due(what, "IllegalStateException", call);
    }

    static int word(CharSequence text, int at) {
        return text.charAt(at) << 24 | text.charAt(at + 1) << 16 | text.charAt(at + 2) << 8 | text.charAt(at + 3);
    }

    static TollTrees loaded(String text) {
        TollTrees x = new TollTrees();
        if (Parse.load(x, text) == TollTrees.NONE) {
            throw new IllegalStateException("error " + x.errorCode() + " at " + x.errorOffset() + " in " + text);
        }
        return x;
    }

    static String written(TollTrees x, int gate) {
        int length = x.writeTree(gate);
        StringBuilder text = new StringBuilder();
        for (int i = 0; i < length; i++) {
            text.append((char) x.outputByte(i));
        }
        return text.toString();
    }

    static void finish(String test) {
        System.out.println(test + ": " + passed + " passed, " + failed + " failed");
        if (failed != 0) {
            System.exit(1);
        }
    }
}
