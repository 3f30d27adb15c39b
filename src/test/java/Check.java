/** Compares answers with those that are due; every test ends with end(). */
final class Check {
    static final String INDEX = "throws.IndexOutOfBoundsException";
    static final String ARGUMENT = "throws.IllegalArgumentException";
    static final String STATE = "throws.IllegalStateException";
    static final String DONE = "done";

    private static int calls = 0;
    private static int wrong = 0;

    private Check() { }

    interface Call {
        Object run();
    }

    interface Deed {
        void run();
    }

    interface NumberCall {
        Object run(int n);
    }

    /** The very class of an exception is told, so that one of its subclasses is not taken for it. */
    static String answer(Call call) {
        try {
            return String.valueOf(call.run());
        } catch (RuntimeException e) {
            return "throws." + e.getClass().getSimpleName();
        }
    }

    static String answer(Deed deed) {
        return answer(() -> {
            deed.run();
            return DONE;
        });
    }

    static void due(Object want, Call call) {
        compare(place(), answer(call), String.valueOf(want));
    }

    static void dueOf(Object want, Deed deed) {
        compare(place(), answer(deed), String.valueOf(want));
    }

    /** A number's first and last value are allowed, those beside them are refused, and so are the ends of all ints. */
    static void ends(int least, int most, String refusal, NumberCall call) {
        String place = place();
        for (int n : new int[] {least, most}) {
            boolean refused = answer(() -> call.run(n)).startsWith("throws.");
            compare(place + " with " + n, refused ? "refused" : "allowed", "allowed");
        }
        for (int n : new int[] {least - 1, most + 1, Integer.MIN_VALUE, Integer.MAX_VALUE}) {
            compare(place + " with " + n, answer(() -> call.run(n)), refusal);
        }
    }

    static void compare(String what, String got, String want) {
        calls++;
        if (!got.equals(want)) {
            wrong++;
            System.out.println(what + ": answered " + got + ", due is " + want);
        }
    }

    static boolean anyWrong() {
        return wrong > 0;
    }

    private static String place() {
        return new Throwable().getStackTrace()[2].toString();
    }

    static void end() {
        System.out.println(calls + " answers, " + wrong + " of them not as due");
        if (wrong > 0) {
            System.exit(1);
        }
    }
}
