/** What the tests share: checks that count and tell what does not hold, and runs of samples. */
class Checks {
    protected static final Class<?> NO_STORE = IndexOutOfBoundsException.class;
    protected static final Class<?> WRONG = IllegalArgumentException.class;
    protected static final Class<?> STATE = IllegalStateException.class;

    private static int passed = 0;
    private static int failed = 0;
    private static String sentence = "";

    protected interface Call {
        void run();
    }

    /** The checks that follow belong to this sentence of the document. */
    protected static void sentence(String words) {
        sentence = words + ": ";
    }

    /** The last line of each main: a run with a check that does not hold ends with 1. */
    protected static void finish() {
        System.out.println(passed + " checks hold, " + failed + " do not");
        if (failed > 0) {
            System.exit(1);
        }
    }

    private static void count(boolean holds, String what, String told) {
        if (holds) {
            passed++;
        } else {
            failed++;
            System.out.println(sentence + what + ": " + told);
        }
    }

    protected static void due(String what, long got, long want) {
        count(got == want, what, "answered " + got + ", due is " + want);
    }

    protected static void due(String what, boolean got, boolean want) {
        count(got == want, what, "answered " + got + ", due is " + want);
    }

    protected static void due(String what, String got, String want) {
        count(got.equals(want), what, "answered " + got + ", due is " + want);
    }

    /** The class itself has to throw: an exception of the machine or of the library is a fault. */
    protected static void dueThrow(String what, Class<?> want, Call call) {
        Class<?> got = null;
        String thrower = "nobody";
        try {
            call.run();
        } catch (RuntimeException thrown) {
            got = thrown.getClass();
            thrower = thrower(thrown);
        }
        count(got == want && thrower.equals("RoomForecast"), what,
                "threw " + got + " in " + thrower + ", due is " + want);
    }

    protected static void dueNoThrow(String what, Call call) {
        String got = "nothing";
        try {
            call.run();
        } catch (RuntimeException thrown) {
            got = thrown.toString();
        }
        count(got.equals("nothing"), what, "threw " + got + ", due is none");
    }

    private static String thrower(RuntimeException thrown) {
        StackTraceElement[] stack = thrown.getStackTrace();
        return stack.length > 0 ? stack[0].getClassName() : "nobody";
    }

    /** An object with one store, and a sample for each pair of day and used room. */
    protected static RoomForecast withSamples(int size, int[]... daysAndUsed) {
        RoomForecast x = new RoomForecast();
        x.addStore(size);
        for (int[] told : daysAndUsed) {
            passTo(x, told[0]);
            x.sample(0, told[1]);
        }
        return x;
    }

    protected static RoomForecast withStores(int number) {
        RoomForecast x = new RoomForecast();
        for (int i = 0; i < number; i++) {
            x.addStore(100);
        }
        return x;
    }

    protected static int[] on(int day, int used) {
        return new int[] {day, used};
    }

    protected static int passTo(RoomForecast x, int day) {
        int changes = 0;
        while (x.today() < day) {
            changes += x.pass(Math.min(100, day - x.today()));
        }
        return changes;
    }

    protected static void dueSlope(String what, RoomForecast x, int numerator, int denominator) {
        due(what + ", numerator", x.slopeNumerator(0), numerator);
        due(what + ", denominator", x.slopeDenominator(0), denominator);
    }

    protected static void dueDays(String what, RoomForecast x, int full, int early, int late) {
        due(what + ", full", x.full(0), full);
        due(what + ", early", x.early(0), early);
        due(what + ", late", x.late(0), late);
    }
}
