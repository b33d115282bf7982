import java.lang.reflect.Constructor;
import java.lang.reflect.Field;
import java.lang.reflect.Method;
import java.lang.reflect.Modifier;
import java.util.ArrayList;
import java.util.Arrays;
import java.util.Collections;
import java.util.List;

/** Tests of each promise of ../shared/DOC.md, with answers worked out by hand. */
public final class RoomForecastTest extends Checks {
    private static final int[] NO_STORES_OF_ONE = {-1, 1, 8, Integer.MIN_VALUE, Integer.MAX_VALUE};

    public static void main(String[] args) {
        face();
        newObject();
        addStore();
        setSize();
        sample();
        clean();
        cleanBehindSample();
        setRule();
        pass();
        samples();
        slope();
        slopeOfManySamples();
        usual();
        forecast();
        forecastByRule();
        forecastLimits();
        full();
        bounds();
        boundsWithoutLastSample();
        boundsOfTheLastTwelve();
        boundsWithDaysNotThere();
        warnings();
        warningsInOnePass();
        warningsOfManyStores();
        pool();
        poolDays();
        poolSums();
        finish();
    }

    // ---- the face

    private static void face() {
        String exceptions = "IndexOutOfBounds IllegalArgument IllegalState";
        List<String> want = new ArrayList<>(List.of(
                "int addStore(int) IllegalArgument IllegalState",
                "int setSize(int,int) IndexOutOfBounds IllegalArgument",
                "int sample(int,int) IndexOutOfBounds IllegalArgument",
                "int clean(int,int) " + exceptions,
                "void setRule(int,int,int) IndexOutOfBounds IllegalArgument",
                "int pass(int) IllegalArgument IllegalState",
                "int today()",
                "int samples(int) IndexOutOfBounds",
                "int slopeNumerator(int) IndexOutOfBounds IllegalState",
                "int slopeDenominator(int) IndexOutOfBounds IllegalState",
                "int usual(int) IndexOutOfBounds",
                "int forecast(int,int) IndexOutOfBounds IllegalState IllegalArgument",
                "int full(int) IndexOutOfBounds",
                "int early(int) IndexOutOfBounds",
                "int late(int) IndexOutOfBounds",
                "boolean warns(int) IndexOutOfBounds",
                "int poolFull(int) IllegalArgument"));
        List<String> got = new ArrayList<>();
        for (Method method : RoomForecast.class.getDeclaredMethods()) {
            if (!Modifier.isPrivate(method.getModifiers()) && !method.isSynthetic()) {
                got.add(signature(method));
            }
        }
        Collections.sort(want);
        Collections.sort(got);
        due("the methods of the face: " + got, got.equals(want), true);
        due("the class is final", Modifier.isFinal(RoomForecast.class.getModifiers()), true);
        due("NONE", RoomForecast.NONE, -1);
        for (Field field : RoomForecast.class.getDeclaredFields()) {
            due("field " + field, Modifier.isPrivate(field.getModifiers()), !field.getName().equals("NONE"));
        }
        Constructor<?>[] constructors = RoomForecast.class.getDeclaredConstructors();
        due("constructors", constructors.length, 1);
        due("public constructor", Modifier.isPublic(constructors[0].getModifiers()), true);
        due("parameters of the constructor", constructors[0].getParameterCount(), 0);
    }

    private static String signature(Method method) {
        StringBuilder text = new StringBuilder();
        text.append(method.getReturnType()).append(' ').append(method.getName()).append('(');
        String types = Arrays.toString(method.getParameterTypes());
        text.append(types.substring(1, types.length() - 1).replace(" ", "")).append(')');
        for (Class<?> thrown : method.getExceptionTypes()) {
            text.append(' ').append(thrown.getSimpleName().replace("Exception", ""));
        }
        return text.toString();
    }

    // ---- promises 1 to 9

    private static void newObject() {
        RoomForecast x = new RoomForecast();
        due("today of a new object", x.today(), 0);
        dueThrow("a new object has no store", NO_STORE, () -> x.samples(0));
        dueThrow("a new object has no pool", WRONG, () -> x.poolFull(1));
        due("days pass without stores", x.pass(100), 0);
        due("another object has its own day", new RoomForecast().today(), 0);
    }

    private static void addStore() {
        RoomForecast x = new RoomForecast();
        for (int size : new int[] {0, -1, 1000001, Integer.MIN_VALUE, Integer.MAX_VALUE}) {
            dueThrow("addStore(" + size + ")", WRONG, () -> x.addStore(size));
        }
        for (int i = 0; i < 8; i++) {
            due("number of a store", x.addStore(i == 0 ? 1 : 1000000), i);
        }
        dueThrow("a ninth store", STATE, () -> x.addStore(5));
        dueThrow("a ninth store of a wrong size", WRONG, () -> x.addStore(0));
        dueThrow("the ninth store is not there", NO_STORE, () -> x.samples(8));
        due("the first size", x.setSize(0, 3), 1);
        due("the last size", x.setSize(7, 3), 1000000);
        due("samples of an added store", x.samples(7), 0);
        due("warning of an added store", x.warns(7), false);
        due("usual of an added store", x.usual(7), 0);
    }

    private static void setSize() {
        RoomForecast x = new RoomForecast();
        x.addStore(10);
        for (int store : NO_STORES_OF_ONE) {
            dueThrow("setSize of no store", NO_STORE, () -> x.setSize(store, 10));
            dueThrow("setSize of no store to a wrong size", NO_STORE, () -> x.setSize(store, 0));
        }
        for (int size : new int[] {0, -1, 1000001, Integer.MIN_VALUE, Integer.MAX_VALUE}) {
            dueThrow("setSize(0, " + size + ")", WRONG, () -> x.setSize(0, size));
        }
        due("size before", x.setSize(0, 1), 10);
        due("least size", x.setSize(0, 1000000), 1);
        due("most size", x.setSize(0, 7), 1000000);
        RoomForecast y = withSamples(100, on(0, 0), on(1, 10));
        due("full before the size is set", y.full(0), 10);
        y.setSize(0, 200);
        due("full after the size is set", y.full(0), 20);
    }

    private static void sample() {
        RoomForecast x = new RoomForecast();
        x.addStore(10);
        x.addStore(10);
        for (int store : new int[] {-1, 2, 8, Integer.MIN_VALUE, Integer.MAX_VALUE}) {
            dueThrow("sample of no store", NO_STORE, () -> x.sample(store, 10));
            dueThrow("wrong sample of no store", NO_STORE, () -> x.sample(store, -1));
        }
        for (int used : new int[] {-1, 1000001, Integer.MIN_VALUE, Integer.MAX_VALUE}) {
            dueThrow("sample(0, " + used + ")", WRONG, () -> x.sample(0, used));
        }
        due("no sample so far", x.samples(0), 0);
        due("the least used room", x.sample(0, 0), 1);
        due("the most used room", x.sample(0, 1000000), 1);
        due("samples of the other store", x.samples(1), 0);
        for (int i = 2; i <= 15; i++) {
            x.pass(3);
            due("sample " + i, x.sample(0, i), Math.min(i, 12));
            due("sample " + i + " in place of itself", x.sample(0, i + 1), Math.min(i, 12));
        }
        RoomForecast y = withSamples(100, on(0, 50), on(2, 9), on(2, 60));
        dueSlope("the last one told for a day counts", y, 5, 1);
        due("and forecasts start from it", y.forecast(0, 3), 65);
    }

    private static void clean() {
        RoomForecast x = new RoomForecast();
        x.addStore(10);
        x.addStore(10);
        for (int store : new int[] {-1, 2, 8, Integer.MIN_VALUE, Integer.MAX_VALUE}) {
            dueThrow("cleaning of no store", NO_STORE, () -> x.clean(store, 1));
            dueThrow("wrong cleaning of no store", NO_STORE, () -> x.clean(store, 0));
        }
        int[] wrong = {0, -1, 100001, Integer.MIN_VALUE, Integer.MAX_VALUE};
        for (int freed : wrong) {
            dueThrow("clean(0, " + freed + ")", WRONG, () -> x.clean(0, freed));
        }
        for (int i = 1; i <= 60; i++) {
            due("cleaning " + i, x.clean(0, i % 2 == 0 ? 1 : 100000), i);
        }
        dueThrow("cleaning 61", STATE, () -> x.clean(0, 1));
        for (int freed : wrong) {
            dueThrow("cleaning 61 of a wrong size", WRONG, () -> x.clean(0, freed));
        }
        due("cleanings of the other store", x.clean(1, 5), 1);
        due("usual of 60 cleanings", x.usual(0), 1);
    }

    private static void cleanBehindSample() {
        RoomForecast x = withSamples(1000, on(0, 100), on(10, 100));
        dueSlope("without a cleaning", x, 0, 1);
        x.clean(0, 30);
        dueSlope("a sample is taken behind a cleaning told after it", x, 3, 1);
        x.pass(1);
        x.clean(0, 500);
        dueSlope("a cleaning of a later day changes no slope", x, 3, 1);
        x.pass(9);
        x.sample(0, 100);
        dueSlope("slopes 3, 53/2 and 50", x, 53, 2);
        RoomForecast y = new RoomForecast();
        y.addStore(1000);
        y.clean(0, 70);
        y.sample(0, 100);
        y.pass(10);
        y.sample(0, 150);
        dueSlope("a cleaning ahead of all samples changes no slope", y, 5, 1);
    }

    private static void setRule() {
        RoomForecast x = withSamples(1000, on(0, 500), on(5, 500));
        for (int store : NO_STORES_OF_ONE) {
            dueThrow("rule of no store", NO_STORE, () -> x.setRule(store, 0, 0));
            dueThrow("wrong rule of no store", NO_STORE, () -> x.setRule(store, -1, -1));
        }
        for (int from : new int[] {-1, 3001, Integer.MIN_VALUE, Integer.MAX_VALUE}) {
            dueThrow("rule from " + from, WRONG, () -> x.setRule(0, from, 1));
            dueThrow("no rule from " + from, WRONG, () -> x.setRule(0, from, 0));
        }
        for (int every : new int[] {-1, 101, Integer.MIN_VALUE, Integer.MAX_VALUE}) {
            dueThrow("rule every " + every, WRONG, () -> x.setRule(0, 0, every));
        }
        x.pass(1);
        x.clean(0, 10);
        due("no rule as at first", x.forecast(0, 1005), 500);
        x.setRule(0, 0, 100);
        due("every 100 days from 0 on", x.forecast(0, 1000), 400);
        x.setRule(0, 3000, 1);
        due("from 3000 on", x.forecast(0, 1005), 500);
        x.setRule(0, 0, 1);
        due("each day", x.forecast(0, 10), 450);
        x.setRule(0, 0, 0);
        due("none again", x.forecast(0, 10), 500);
    }

    private static void pass() {
        RoomForecast x = new RoomForecast();
        x.addStore(10);
        int[] wrong = {0, -1, 101, Integer.MIN_VALUE, Integer.MAX_VALUE};
        for (int days : wrong) {
            dueThrow("pass(" + days + ")", WRONG, () -> x.pass(days));
        }
        due("today after wrong days", x.today(), 0);
        due("no warning in a day", x.pass(1), 0);
        due("today after a day", x.today(), 1);
        due("no warning in 100 days", x.pass(100), 0);
        due("today after 101 days", x.today(), 101);
        passTo(x, 1990);
        dueThrow("day 2001", STATE, () -> x.pass(11));
        dueThrow("day 2090", STATE, () -> x.pass(100));
        dueThrow("101 days on day 1990", WRONG, () -> x.pass(101));
        due("today after a call that threw", x.today(), 1990);
        x.pass(10);
        due("the last day", x.today(), 2000);
        dueThrow("behind the last day", STATE, () -> x.pass(1));
        for (int days : wrong) {
            dueThrow("wrong days on the last day", WRONG, () -> x.pass(days));
        }
        due("a sample on the last day", x.sample(0, 5), 1);
    }

    private static void samples() {
        RoomForecast x = withSamples(10, on(0, 1), on(5, 2));
        for (int store : NO_STORES_OF_ONE) {
            dueThrow("samples of no store", NO_STORE, () -> x.samples(store));
        }
        due("samples", x.samples(0), 2);
        x.pass(50);
        due("samples stay while days pass", x.samples(0), 2);
    }

    // ---- promises 10 to 12

    private static void slope() {
        RoomForecast x = new RoomForecast();
        x.addStore(100);
        for (int store : NO_STORES_OF_ONE) {
            dueThrow("numerator of no store", NO_STORE, () -> x.slopeNumerator(store));
            dueThrow("denominator of no store", NO_STORE, () -> x.slopeDenominator(store));
        }
        for (int i = 0; i < 2; i++) {
            dueThrow("numerator of " + i + " samples", STATE, () -> x.slopeNumerator(0));
            dueThrow("denominator of " + i + " samples", STATE, () -> x.slopeDenominator(0));
            x.sample(0, 5);
        }
        dueSlope("lowest terms", withSamples(9, on(0, 0), on(4, 6)), 3, 2);
        dueSlope("lowest terms below 0", withSamples(9, on(0, 6), on(4, 0)), -3, 2);
        dueSlope("slope 0", withSamples(9, on(0, 6), on(7, 6)), 0, 1);
        dueSlope("a whole slope", withSamples(9, on(3, 6), on(5, 12)), 3, 1);
        dueSlope("the least slope", withSamples(9, on(0, 1000000), on(1, 0)), -1000000, 1);
        dueSlope("a long gap", withSamples(9, on(0, 1), on(2000, 0)), -1, 2000);
        // slopes 1, 10 and 11 / 2
        dueSlope("the middle of 3", withSamples(99, on(0, 0), on(1, 1), on(2, 11)), 11, 2);
        // slopes 5, 3, 2, 1, 1 / 2 and 0
        dueSlope("the lower middle of 6", withSamples(99, on(0, 0), on(1, 5), on(2, 6), on(3, 6)), 1, 1);
        // slopes 3 / 2, 2 / 3, 1 and twice 1 in 1
        dueSlope("neighbours as fractions", withSamples(99, on(0, 0), on(3, 2), on(5, 5)), 1, 1);
    }

    private static void slopeOfManySamples() {
        RoomForecast x = withSamples(100000, on(0, 90000));
        for (int day = 1; day <= 11; day++) {
            x.pass(1);
            x.sample(0, 1000 + day * day);
        }
        // The 11 slopes from the first sample are the least; the other 55 are a + b with
        // 1 <= a < b <= 11, of which 20 are below 11 and 5 are 11.
        dueSlope("the middle of 66", x, 11, 1);
        x.pass(1);
        x.sample(0, 1144);
        // Of the 66 slopes a + b with 1 <= a < b <= 12, 30 are below 13 and 6 are 13.
        dueSlope("a least first sample counts no more", x, 13, 1);
        RoomForecast y = withSamples(100000, on(0, 0));
        for (int day = 1; day <= 12; day++) {
            y.pass(1);
            y.sample(0, 1000 + day * day);
        }
        dueSlope("slopes of a first sample that were the greatest", y, 13, 1);
    }

    private static void usual() {
        RoomForecast x = new RoomForecast();
        x.addStore(100);
        for (int store : NO_STORES_OF_ONE) {
            dueThrow("usual of no store", NO_STORE, () -> x.usual(store));
        }
        int[] freed = {50, 20, 30, 20, 90, 10, 100000};
        int[] want = {50, 20, 30, 20, 30, 20, 30};
        due("usual without cleanings", x.usual(0), 0);
        for (int i = 0; i < freed.length; i++) {
            x.clean(0, freed[i]);
            due("usual of " + (i + 1) + " cleanings", x.usual(0), want[i]);
            x.pass(i + 1);
        }
    }

    // ---- promises 13 and 14

    private static void forecast() {
        RoomForecast x = new RoomForecast();
        x.addStore(1000);
        for (int store : NO_STORES_OF_ONE) {
            dueThrow("forecast of no store", NO_STORE, () -> x.forecast(store, 1));
        }
        dueThrow("forecast of no sample", STATE, () -> x.forecast(0, 1));
        x.sample(0, 500);
        dueThrow("forecast of one sample", STATE, () -> x.forecast(0, 1));
        dueThrow("forecast of one sample for a wrong day", STATE, () -> x.forecast(0, -1));
        x.pass(3);
        x.sample(0, 504);
        x.pass(100);
        int[] wrong = {-1, 0, 3, 1004, Integer.MIN_VALUE, Integer.MAX_VALUE};
        for (int day : wrong) {
            dueThrow("forecast for day " + day, WRONG, () -> x.forecast(0, day));
        }
        due("a day on", x.forecast(0, 4), 505);
        due("two days on", x.forecast(0, 5), 506);
        due("three days on", x.forecast(0, 6), 508);
        due("1000 days on", x.forecast(0, 1003), 1837);
        RoomForecast y = withSamples(1000, on(0, 504), on(3, 500));
        due("rounded down below 0, a day on", y.forecast(0, 4), 498);
        due("rounded down below 0, two days on", y.forecast(0, 5), 497);
        due("rounded down below 0, three days on", y.forecast(0, 6), 496);
    }

    private static void forecastByRule() {
        RoomForecast x = withSamples(100000, on(0, 1000), on(10, 2000));
        x.pass(1);
        x.clean(0, 40);
        x.setRule(0, 10, 3);
        due("the day of the sample is no day to come", x.forecast(0, 12), 2200);
        due("the day of the forecast is one", x.forecast(0, 13), 2260);
        due("the day behind it", x.forecast(0, 14), 2360);
        due("the next one by the rule", x.forecast(0, 16), 2520);
        x.setRule(0, 12, 100);
        due("ahead of the rule", x.forecast(0, 11), 2100);
        due("the first day of the rule", x.forecast(0, 12), 2160);
        due("ahead of the second day of the rule", x.forecast(0, 111), 12060);
        due("the second day of the rule", x.forecast(0, 112), 12120);
        x.setRule(0, 1, 4);
        due("a rule from before the sample", x.forecast(0, 13), 2260);
        x.clean(0, 10);
        due("the usual size is the lower middle", x.forecast(0, 13), 2290);
    }

    private static void forecastLimits() {
        RoomForecast x = withSamples(1000000, on(0, 0), on(1, 1000000));
        for (int i = 0; i < 60; i++) {
            x.clean(0, 100000);
        }
        dueSlope("the greatest slope", x, 7000000, 1);
        due("ahead of the limit", x.forecast(0, 286), 1996000000);
        due("at most 2000000000", x.forecast(0, 287), 2000000000);
        due("1000 days on", x.forecast(0, 1001), 2000000000);
        x.setRule(0, 0, 1);
        due("cleanings come off ahead of the limit", x.forecast(0, 287), 1974400000);
        RoomForecast y = withSamples(1000000, on(0, 30), on(1, 20));
        due("ahead of 0", y.forecast(0, 2), 10);
        due("at 0", y.forecast(0, 3), 0);
        due("at least 0", y.forecast(0, 4), 0);
        due("at least 0 after 1000 days", y.forecast(0, 1001), 0);
        RoomForecast z = withSamples(1000000, on(0, 20), on(1, 30));
        z.pass(1);
        z.clean(0, 100000);
        z.setRule(0, 0, 1);
        due("at least 0 by cleanings", z.forecast(0, 2), 0);
    }

    private static void full() {
        RoomForecast x = new RoomForecast();
        x.addStore(1000);
        for (int store : NO_STORES_OF_ONE) {
            dueThrow("full of no store", NO_STORE, () -> x.full(store));
        }
        due("full without samples", x.full(0), -1);
        x.sample(0, 1000);
        due("full with one sample", x.full(0), -1);
        RoomForecast y = withSamples(1001, on(0, 0), on(1, 1));
        due("1000 days on", y.full(0), 1001);
        y.setSize(0, 1002);
        due("1001 days on", y.full(0), -1);
        y.setSize(0, 1);
        due("full already", y.full(0), 2);
        y.pass(100);
        due("full does not look at today", y.full(0), 2);
        due("full on the second day", withSamples(100, on(0, 75), on(1, 85)).full(0), 3);
        RoomForecast z = withSamples(50, on(0, 70), on(1, 60));
        due("falling, but full on the first day", z.full(0), 2);
        z.setSize(0, 51);
        due("falling below the size", z.full(0), -1);
        RoomForecast w = withSamples(60, on(0, 60), on(9, 60));
        due("staying full", w.full(0), 10);
        w.pass(1);
        w.clean(0, 1);
        w.setRule(0, 10, 10);
        due("a cleaning on the first day", w.full(0), -1);
        w.setRule(0, 11, 10);
        due("a cleaning on the second day", w.full(0), 10);
        RoomForecast v = withSamples(100, on(0, 0), on(1, 10));
        v.pass(1);
        v.clean(0, 15);
        v.setRule(0, 4, 2);
        // 20 30 25 35 30 40 35 ... : each two days 5 more
        due("full between cleanings", v.full(0), 31);
        due("full there", v.forecast(0, 31), 100);
        due("not full before", v.forecast(0, 30), 90);
    }

    // ---- promises 15 and 16

    private static void bounds() {
        RoomForecast x = new RoomForecast();
        x.addStore(100);
        for (int store : NO_STORES_OF_ONE) {
            dueThrow("early of no store", NO_STORE, () -> x.early(store));
            dueThrow("late of no store", NO_STORE, () -> x.late(store));
        }
        dueDays("no samples", x, -1, -1, -1);
        x.sample(0, 0);
        dueDays("1 sample", x, -1, -1, -1);
        x.pass(1);
        x.sample(0, 10);
        dueDays("2 samples", x, 10, -1, -1);
        x.pass(1);
        x.sample(0, 30);
        // all: 15 a day from 30; without the first: 20; the second: 15; the last: 10 a day from 10
        dueDays("3 samples", x, 7, 6, 10);
        x.sample(0, 20);
        dueDays("3 samples in line", x, 10, 10, 10);
        // all: 15 a day from 30; without the first: 10; the second: 15; the last: 20 a day from 20
        dueDays("late without the first", withSamples(100, on(0, 0), on(1, 20), on(2, 30)), 7, 5, 9);
    }

    private static void boundsWithoutLastSample() {
        RoomForecast x = withSamples(100, on(0, 0), on(10, 10), on(20, 99));
        // all: 99 / 20 from 99; without the first: 89 / 10; the second: 99 / 20; the last: 1 from 10
        dueDays("the last one left out", x, 21, 21, 100);
        x.setSize(0, 15);
        dueDays("full before the last sample", x, 21, 15, 21);
        RoomForecast y = withSamples(100, on(0, 0), on(10, 10), on(20, 99));
        y.pass(1);
        y.clean(0, 50);
        y.setRule(0, 15, 100);
        // Without the last sample, 50 are freed on day 15 by the rule, and on day 115.
        dueDays("the rule counts from the day of the new last sample", y, 21, 21, 200);
    }

    private static void boundsOfTheLastTwelve() {
        RoomForecast x = withSamples(10000, on(0, 90000));
        for (int day = 1; day <= 12; day++) {
            x.pass(1);
            x.sample(0, 1000 + day * day);
        }
        // Slopes are a + b, from 1144 on day 12: the middle one is 13 with all, 14 without day 1.
        // Without day 12 it is 12, from 1121 on day 11; if day 0 took its place, it would be 11.
        dueDays("no other sample takes the place of one left out", x, 694, 645, 751);
    }

    private static void boundsWithDaysNotThere() {
        RoomForecast x = withSamples(100, on(0, 0), on(10, 10), on(20, 0));
        // all: 0 from 0; without the first: -1 from 0; the second: 0 from 0; the last: 1 from 10
        dueDays("one day there", x, -1, 100, -1);
        x.setSize(0, 1000000);
        dueDays("no day there", x, -1, -1, -1);
    }

    // ---- promises 7 and 17

    private static void warnings() {
        RoomForecast x = withSamples(39, on(0, 0), on(1, 1), on(2, 2));
        for (int store : NO_STORES_OF_ONE) {
            dueThrow("warning of no store", NO_STORE, () -> x.warns(store));
        }
        due("early", x.early(0), 39);
        due("to day 24", passTo(x, 24), 0);
        due("15 days ahead", x.warns(0), false);
        due("to day 25", x.pass(1), 0);
        due("14 days ahead for one day", x.warns(0), false);
        due("to day 26", x.pass(1), 1);
        due("13 days ahead, and 14 on the day before", x.warns(0), true);
        due("to day 27", x.pass(1), 0);
        x.setSize(0, 49);
        due("21 days ahead", x.pass(1), 0);
        due("it stays on", x.warns(0), true);
        x.setSize(0, 51);
        due("looked at only when a day passes", x.warns(0), true);
        due("22 days ahead", x.pass(1), 1);
        due("it goes off", x.warns(0), false);
        x.setSize(0, 30);
        due("to day 30, near for one day", x.pass(1), 0);
        x.setSize(0, 50);
        due("to day 31, not near", x.pass(1), 0);
        x.setSize(0, 20);
        due("to day 32, near for one day again", x.pass(1), 0);
        due("the day before must be near too", x.warns(0), false);
        due("to day 33, full long ago", x.pass(1), 1);
        due("a day that is past is near", x.warns(0), true);
        x.setSize(0, 1000000);
        due("early is not there", x.early(0), -1);
        due("to day 34", x.pass(1), 1);
        due("off without a day", x.warns(0), false);
    }

    private static void warningsInOnePass() {
        RoomForecast x = withSamples(10, on(0, 0), on(1, 1), on(2, 2));
        due("on on the second day", x.pass(2), 1);
        x.setSize(0, 50);
        // Day 5 is 45 days ahead: off; day 36 is 14 days ahead, so that it goes on on day 37.
        due("off and on again", x.pass(33), 2);
        due("on again", x.warns(0), true);
        x.setSize(0, 90);
        due("off", x.pass(39), 1);
        due("day 76 is the first that is near", x.today(), 76);
        due("on", x.pass(1), 1);
        RoomForecast y = withSamples(10, on(0, 0), on(1, 1));
        due("two samples, no bounds", y.pass(100), 0);
        due("and no warning", y.warns(0), false);
    }

    private static void warningsOfManyStores() {
        RoomForecast x = new RoomForecast();
        for (int i = 0; i < 8; i++) {
            x.addStore(i < 7 ? 10 : 1000000);
        }
        for (int day = 0; day < 3; day++) {
            for (int i = 0; i < 8; i++) {
                x.sample(i, day);
            }
            if (day < 2) {
                x.pass(1);
            }
        }
        due("none on the first day", x.pass(1), 0);
        due("seven on the second", x.pass(1), 7);
        due("the first", x.warns(0), true);
        due("the last", x.warns(7), false);
        x.setSize(3, 500);
        due("one off", x.pass(1), 1);
        due("the one", x.warns(3), false);
        due("its neighbour", x.warns(4), true);
    }

    // ---- promise 18

    private static void pool() {
        RoomForecast x = new RoomForecast();
        for (int pool : new int[] {0, 1, -1, Integer.MIN_VALUE, Integer.MAX_VALUE}) {
            dueThrow("pool " + pool + " without stores", WRONG, () -> x.poolFull(pool));
        }
        x.addStore(100);
        x.addStore(200);
        for (int pool : new int[] {0, 4, 5, 7, 256, 259, -1, 1 << 30 | 1, Integer.MIN_VALUE, Integer.MIN_VALUE + 1}) {
            dueThrow("pool " + pool + " of two stores", WRONG, () -> x.poolFull(pool));
        }
        x.sample(0, 0);
        x.sample(1, 0);
        x.pass(1);
        x.sample(0, 10);
        due("a store with a slope", x.poolFull(1), 10);
        due("a store without one", x.poolFull(2), -1);
        due("both", x.poolFull(3), -1);
        x.sample(1, 1);
        due("the other store", x.poolFull(2), 200);
        // 300 in all, 11 a day
        due("both together", x.poolFull(3), 28);
        for (int i = 2; i < 8; i++) {
            x.addStore(1);
        }
        due("eight stores, two have slopes", x.poolFull(255), -1);
        dueThrow("a ninth bit", WRONG, () -> x.poolFull(256));
        x.setRule(0, 5, 10);
        x.clean(0, 20);
        // Now 30 a day without the rule: 32 on day 1 and so on; 20 less from day 5, 15, ..
        due("a rule in a pool", x.poolFull(3), 11);
    }

    private static void poolDays() {
        RoomForecast x = withSamples(100, on(0, 0), on(1, 10));
        passTo(x, 50);
        due("full is past", x.full(0), 10);
        due("a pool is full tomorrow at the earliest", x.poolFull(1), 51);
        RoomForecast y = withSamples(1500, on(0, 0), on(1, 1));
        due("more than 1000 days behind the last sample", y.full(0), -1);
        due("and from today", y.poolFull(1), -1);
        passTo(y, 499);
        due("1001 days from today", y.poolFull(1), -1);
        y.pass(1);
        due("1000 days from today", y.poolFull(1), 1500);
        due("a store still is not", y.full(0), -1);
        passTo(y, 2000);
        y.setSize(0, 3000);
        due("to day 3000", y.poolFull(1), 3000);
        y.setSize(0, 3001);
        due("not to day 3001", y.poolFull(1), -1);
    }

    private static void poolSums() {
        RoomForecast x = new RoomForecast();
        x.addStore(100);
        x.addStore(100);
        x.sample(0, 0);
        x.sample(1, 60);
        x.pass(1);
        x.sample(0, 10);
        x.sample(1, 50);
        due("10 up and 10 down, until one is at 0", x.poolFull(3), 20);
        RoomForecast y = new RoomForecast();
        for (int i = 0; i < 8; i++) {
            y.addStore(1000000);
            y.sample(i, 0);
        }
        y.pass(1);
        for (int i = 0; i < 8; i++) {
            y.sample(i, 8000);
        }
        due("eight million", y.poolFull(255), 125);
        for (int n = 0; n < 60; n++) {
            y.clean(0, 100000);
            y.clean(1, 100000);
        }
        passTo(y, 1900);
        due("two stores at the limit", y.poolFull(3), 1901);
        due("all stores", y.poolFull(255), 1901);
    }
}
