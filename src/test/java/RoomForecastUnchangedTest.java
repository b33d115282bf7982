/** A call that throws changes nothing, nor does a question: what is asked and told afterwards answers as before it. */
public final class RoomForecastUnchangedTest extends Checks {
    private static final int LAST_SAMPLE = 1949;

    private interface Use {
        void on(RoomForecast x);
    }

    private interface Answer {
        Object of();
    }

    public static void main(String[] args) {
        whatTheBusyObjectHolds();
        refusedOfThreeStores();
        refusedOfEightStores();
        refusedOfNoStores();
        refusedAtTheFirstSamples();
        questions();
        finish();
    }

    /**
     * Today is 1950. Store 0 has more samples than count, and a warning that was near for the first time today;
     * store 1 has 60 cleanings, a rule and a warning that is on; store 2 has one sample; the others have none.
     */
    private static RoomForecast busy(int stores) {
        RoomForecast x = new RoomForecast();
        for (int i = 0; i < stores; i++) {
            x.addStore(1000 + i);
        }
        passTo(x, LAST_SAMPLE - 13);
        x.setSize(0, 1964);
        x.setSize(1, 400000);
        x.setRule(1, 1945, 7);
        x.sample(2, 70);
        for (int day = LAST_SAMPLE - 12; day <= LAST_SAMPLE; day++) {
            x.pass(1);
            x.sample(0, day);
            x.sample(1, 500000 + 20000 * (day % 5));
            for (int i = 0; i < 5 && day > LAST_SAMPLE - 12; i++) {
                x.clean(1, 500 + 7 * day % 11 + i);
            }
        }
        x.pass(1);
        x.setSize(1, 600000);
        return x;
    }

    private static void whatTheBusyObjectHolds() {
        sentence("the object of these tests");
        RoomForecast x = busy(3);
        due("today", x.today(), 1950);
        due("samples of store 0", x.samples(0), 12);
        due("samples of store 1", x.samples(1), 12);
        due("samples of store 2", x.samples(2), 1);
        dueThrow("store 1 has 60 cleanings", STATE, () -> x.clean(1, 1));
        due("early of store 0", x.early(0), 1964);
        due("warning of store 0", x.warns(0), false);
        due("warning of store 1", x.warns(1), true);
        due("store 0 was near for one day", x.pass(1), 1);
        due("warning of store 0 then", x.warns(0), true);
    }

    /** Answers all questions, and then tells more and asks again; some 250 calls. */
    private static String answers(RoomForecast x, int stores) {
        StringBuilder text = new StringBuilder();
        askAll(x, stores, text);
        for (int store = 0; store < Math.min(3, stores); store++) {
            int told = store;
            note(text, () -> x.clean(told, 40));
            note(text, () -> x.sample(told, 777));
            note(text, () -> x.sample(told, 1950));
            note(text, () -> x.setSize(told, 3000));
            note(text, () -> x.setSize(told, 1965));
        }
        note(text, () -> x.addStore(50));
        note(text, () -> x.pass(1));
        askAll(x, stores, text);
        note(text, () -> x.pass(49));
        note(text, () -> x.pass(1));
        note(text, () -> x.today());
        return text.toString();
    }

    private static void askAll(RoomForecast x, int stores, StringBuilder text) {
        note(text, () -> x.today());
        for (int store = 0; store < Math.min(4, stores); store++) {
            int asked = store;
            note(text, () -> x.samples(asked));
            note(text, () -> x.slopeNumerator(asked));
            note(text, () -> x.slopeDenominator(asked));
            note(text, () -> x.usual(asked));
            note(text, () -> x.forecast(asked, 1960));
            note(text, () -> x.forecast(asked, 2500));
            note(text, () -> x.full(asked));
            note(text, () -> x.early(asked));
            note(text, () -> x.late(asked));
            note(text, () -> x.warns(asked));
            note(text, () -> x.poolFull(1 << asked));
        }
        note(text, () -> x.poolFull(3));
        note(text, () -> x.poolFull(7));
    }

    private static void note(StringBuilder text, Answer answer) {
        try {
            text.append(answer.of()).append(' ');
        } catch (RuntimeException thrown) {
            text.append(thrown.getClass().getSimpleName()).append(' ');
        }
    }

    private static void refused(String what, int stores, Class<?> exception, Use use) {
        RoomForecast x = busyOrNew(stores);
        dueThrow(what, exception, () -> use.on(x));
        dueThrow(what + " again", exception, () -> use.on(x));
        due("answers behind " + what, answers(x, stores), answers(busyOrNew(stores), stores));
    }

    private static RoomForecast busyOrNew(int stores) {
        return stores > 0 ? busy(stores) : new RoomForecast();
    }

    private static void refusedOfThreeStores() {
        sentence("A call that throws changes nothing, with 3 stores");
        refused("addStore(0)", 3, WRONG, x -> x.addStore(0));
        refused("addStore(1000001)", 3, WRONG, x -> x.addStore(1000001));
        refused("setSize(3, 5)", 3, NO_STORE, x -> x.setSize(3, 5));
        refused("setSize(-1, 5)", 3, NO_STORE, x -> x.setSize(-1, 5));
        refused("setSize(0, 0)", 3, WRONG, x -> x.setSize(0, 0));
        refused("setSize(0, 1000001)", 3, WRONG, x -> x.setSize(0, 1000001));
        refused("sample(3, 5)", 3, NO_STORE, x -> x.sample(3, 5));
        refused("sample(-1, 5)", 3, NO_STORE, x -> x.sample(-1, 5));
        refused("sample(0, -1)", 3, WRONG, x -> x.sample(0, -1));
        refused("sample(0, 1000001)", 3, WRONG, x -> x.sample(0, 1000001));
        refused("sample(2, -1)", 3, WRONG, x -> x.sample(2, -1));
        refused("clean(3, 5)", 3, NO_STORE, x -> x.clean(3, 5));
        refused("clean(-1, 5)", 3, NO_STORE, x -> x.clean(-1, 5));
        refused("clean(0, 0)", 3, WRONG, x -> x.clean(0, 0));
        refused("clean(0, 100001)", 3, WRONG, x -> x.clean(0, 100001));
        refused("clean(1, 5), the 61st", 3, STATE, x -> x.clean(1, 5));
        refused("setRule(3, 1, 1)", 3, NO_STORE, x -> x.setRule(3, 1, 1));
        refused("setRule(-1, 1, 1)", 3, NO_STORE, x -> x.setRule(-1, 1, 1));
        refused("setRule(1, -1, 1)", 3, WRONG, x -> x.setRule(1, -1, 1));
        refused("setRule(1, 3001, 1)", 3, WRONG, x -> x.setRule(1, 3001, 1));
        refused("setRule(1, 1, -1)", 3, WRONG, x -> x.setRule(1, 1, -1));
        refused("setRule(1, 1, 101)", 3, WRONG, x -> x.setRule(1, 1, 101));
        refused("pass(0)", 3, WRONG, x -> x.pass(0));
        refused("pass(-1)", 3, WRONG, x -> x.pass(-1));
        refused("pass(101)", 3, WRONG, x -> x.pass(101));
        refused("pass(51), to day 2001", 3, STATE, x -> x.pass(51));
        refused("pass(100), to day 2050", 3, STATE, x -> x.pass(100));
        refusedQuestions();
    }

    private static void refusedQuestions() {
        sentence("A question that throws changes nothing");
        refused("samples(3)", 3, NO_STORE, x -> x.samples(3));
        refused("slopeNumerator(3)", 3, NO_STORE, x -> x.slopeNumerator(3));
        refused("slopeNumerator(2)", 3, STATE, x -> x.slopeNumerator(2));
        refused("slopeDenominator(3)", 3, NO_STORE, x -> x.slopeDenominator(3));
        refused("slopeDenominator(2)", 3, STATE, x -> x.slopeDenominator(2));
        refused("usual(3)", 3, NO_STORE, x -> x.usual(3));
        refused("forecast(3, 1960)", 3, NO_STORE, x -> x.forecast(3, 1960));
        refused("forecast(2, 1960)", 3, STATE, x -> x.forecast(2, 1960));
        refused("forecast(0, 1949)", 3, WRONG, x -> x.forecast(0, 1949));
        refused("forecast(0, 2950)", 3, WRONG, x -> x.forecast(0, 2950));
        refused("full(3)", 3, NO_STORE, x -> x.full(3));
        refused("early(3)", 3, NO_STORE, x -> x.early(3));
        refused("late(3)", 3, NO_STORE, x -> x.late(3));
        refused("warns(3)", 3, NO_STORE, x -> x.warns(3));
        refused("poolFull(0)", 3, WRONG, x -> x.poolFull(0));
        refused("poolFull(8)", 3, WRONG, x -> x.poolFull(8));
        refused("poolFull(-1)", 3, WRONG, x -> x.poolFull(-1));
    }

    private static void refusedOfEightStores() {
        sentence("A call that throws changes nothing, with 8 stores");
        refused("addStore(1), the ninth", 8, STATE, x -> x.addStore(1));
        refused("addStore(0)", 8, WRONG, x -> x.addStore(0));
        refused("setSize(8, 5)", 8, NO_STORE, x -> x.setSize(8, 5));
        refused("sample(8, 5)", 8, NO_STORE, x -> x.sample(8, 5));
        refused("clean(8, 5)", 8, NO_STORE, x -> x.clean(8, 5));
        refused("setRule(8, 1, 1)", 8, NO_STORE, x -> x.setRule(8, 1, 1));
        refused("poolFull(256)", 8, WRONG, x -> x.poolFull(256));
    }

    private static void refusedOfNoStores() {
        sentence("A call that throws changes nothing, without stores");
        refused("addStore(0)", 0, WRONG, x -> x.addStore(0));
        refused("setSize(0, 5)", 0, NO_STORE, x -> x.setSize(0, 5));
        refused("sample(0, 5)", 0, NO_STORE, x -> x.sample(0, 5));
        refused("clean(0, 5)", 0, NO_STORE, x -> x.clean(0, 5));
        refused("setRule(0, 1, 1)", 0, NO_STORE, x -> x.setRule(0, 1, 1));
        refused("pass(0)", 0, WRONG, x -> x.pass(0));
        refused("poolFull(1)", 0, WRONG, x -> x.poolFull(1));
    }

    private static void refusedAtTheFirstSamples() {
        sentence("A refused sample is none");
        RoomForecast x = withStores(1);
        dueThrow("used -1 ahead of all", WRONG, () -> x.sample(0, -1));
        due("samples", x.samples(0), 0);
        due("the first sample", x.sample(0, 10), 1);
        dueThrow("used 1000001 on the same day", WRONG, () -> x.sample(0, 1000001));
        x.pass(1);
        dueThrow("used 1000001 on the next day", WRONG, () -> x.sample(0, 1000001));
        due("samples then", x.samples(0), 1);
        due("the second sample", x.sample(0, 30), 2);
        dueSlope("of the two that were told", x, 20, 1);
        sentence("A refused cleaning is none");
        dueThrow("freed 0", WRONG, () -> x.clean(0, 0));
        dueThrow("freed 100001", WRONG, () -> x.clean(0, 100001));
        due("usual", x.usual(0), 0);
        dueSlope("without cleanings", x, 20, 1);
        due("the first cleaning", x.clean(0, 10), 1);
        dueSlope("with one", x, 30, 1);
        theRefused61stCleaning();
        sentence("A refused rule leaves the one before");
        x.setRule(0, 2, 100);
        dueThrow("every 101", WRONG, () -> x.setRule(0, 50, 101));
        dueThrow("from 3001", WRONG, () -> x.setRule(0, 3001, 50));
        due("day 2", x.forecast(0, 2), 50);
        due("day 101", x.forecast(0, 101), 3020);
        due("day 102", x.forecast(0, 102), 3040);
    }

    private static void theRefused61stCleaning() {
        sentence("A refused 61st cleaning is none");
        RoomForecast x = withSamples(1000, on(0, 10), on(1, 30));
        for (int i = 0; i < 60; i++) {
            x.clean(0, 10);
        }
        dueSlope("behind 60 cleanings of 10", x, 620, 1);
        dueThrow("on the day of a sample", STATE, () -> x.clean(0, 100000));
        due("usual", x.usual(0), 10);
        dueSlope("as before", x, 620, 1);
        x.pass(1);
        dueThrow("on a day ahead of a sample", STATE, () -> x.clean(0, 100000));
        x.sample(0, 30);
        // 620, 310 and 0
        dueSlope("of three samples", x, 310, 1);
    }

    private static void questions() {
        sentence("A question changes nothing");
        String want = answers(busy(3), 3);
        for (int store = 0; store < 3; store++) {
            int asked = store;
            asked("samples", want, x -> x.samples(asked));
            asked("usual", want, x -> x.usual(asked));
            asked("full", want, x -> x.full(asked));
            asked("early", want, x -> x.early(asked));
            asked("late", want, x -> x.late(asked));
            asked("warns", want, x -> x.warns(asked));
            asked("poolFull", want, x -> x.poolFull(1 << asked));
        }
        asked("today", want, x -> x.today());
        asked("slopeNumerator", want, x -> x.slopeNumerator(0));
        asked("slopeDenominator", want, x -> x.slopeDenominator(0));
        asked("forecast", want, x -> x.forecast(0, 2000));
        asked("poolFull of all", want, x -> x.poolFull(7));
    }

    private static void asked(String what, String want, Use use) {
        RoomForecast x = busy(3);
        use.on(x);
        use.on(x);
        due("answers behind " + what, answers(x, 3), want);
    }
}
