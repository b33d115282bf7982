import java.util.LinkedHashMap;
import java.util.Map;

/** A test of its own for each sentence of ../shared/DOC.md that names an edge, in the document's order. */
public final class RoomForecastEdgesTest extends Checks {
    private static final int LEAST = Integer.MIN_VALUE;
    private static final int MOST = Integer.MAX_VALUE;

    private interface StoreCall {
        void on(RoomForecast x, int store);
    }

    public static void main(String[] args) {
        newObject();
        whichExceptionGoesFirst();
        rangesOfWhatIsTold();
        divisions();
        stores();
        slopes();
        usualSizes();
        rules();
        forecasts();
        fullDays();
        bounds();
        pools();
        warnings();
        days();
        finish();
    }

    // ---- a new object

    private static void newObject() {
        sentence("NONE = -1");
        due("the constant", RoomForecast.NONE, -1);
        sentence("No stores; today is 0");
        RoomForecast x = new RoomForecast();
        due("today", x.today(), 0);
        due("the first store's number", x.addStore(1), 0);
        sentence("what one object is told is not told to another");
        RoomForecast y = new RoomForecast();
        y.pass(5);
        y.addStore(7);
        due("its day", x.today(), 0);
        due("the other one's day", y.today(), 5);
        due("its size", x.setSize(0, 2), 1);
        due("the other one's size", y.setSize(0, 2), 7);
        for (int number : new int[] {0, 1, 2, 8}) {
            noSuchStore(number);
        }
    }

    /** All calls that take a store, with other arguments that are in range for 2 samples up to day 2. */
    private static Map<String, StoreCall> storeCalls() {
        Map<String, StoreCall> calls = new LinkedHashMap<>();
        calls.put("setSize", (x, store) -> x.setSize(store, 100));
        calls.put("sample", (x, store) -> x.sample(store, 50));
        calls.put("clean", (x, store) -> x.clean(store, 10));
        calls.put("setRule", (x, store) -> x.setRule(store, 10, 10));
        calls.put("samples", (x, store) -> x.samples(store));
        calls.put("slopeNumerator", (x, store) -> x.slopeNumerator(store));
        calls.put("slopeDenominator", (x, store) -> x.slopeDenominator(store));
        calls.put("usual", (x, store) -> x.usual(store));
        calls.put("forecast", (x, store) -> x.forecast(store, 10));
        calls.put("full", (x, store) -> x.full(store));
        calls.put("early", (x, store) -> x.early(store));
        calls.put("late", (x, store) -> x.late(store));
        calls.put("warns", (x, store) -> x.warns(store));
        return calls;
    }

    private static void noSuchStore(int number) {
        sentence("IndexOutOfBoundsException if there is no such store, of " + number);
        RoomForecast x = withStores(number);
        for (int day = 0; day < 2; day++) {
            for (int store = 0; store < number; store++) {
                x.sample(store, day);
            }
            x.pass(1);
        }
        for (Map.Entry<String, StoreCall> call : storeCalls().entrySet()) {
            for (int store : new int[] {LEAST, -1, number, number + 1, 8, MOST}) {
                dueThrow(call.getKey() + " of " + store, NO_STORE, () -> call.getValue().on(x, store));
            }
            for (int store = 0; store < number; store++) {
                int there = store;
                dueNoThrow(call.getKey() + " of " + store, () -> call.getValue().on(x, there));
            }
        }
    }

    // ---- the exception that is listed first

    private static void whichExceptionGoesFirst() {
        sentence("addStore: the size goes ahead of the number of stores");
        RoomForecast x = withStores(8);
        dueThrow("size 0", WRONG, () -> x.addStore(0));
        dueThrow("size 1000001", WRONG, () -> x.addStore(1000001));
        dueThrow("a size in range", STATE, () -> x.addStore(1));
        for (int store : new int[] {-1, 8}) {
            theStoreGoesFirst(x, store);
        }
        cleaningsOfWrongSizeBehindTheLast();
        daysOutOfRangeBehindTheLast();
        theSlopeGoesAheadOfTheDay();
        noSlopeOfNoStore();
    }

    private static void theStoreGoesFirst(RoomForecast x, int store) {
        sentence("the store goes ahead of the other arguments, store " + store);
        dueThrow("setSize, size 0", NO_STORE, () -> x.setSize(store, 0));
        dueThrow("setSize, size 1000001", NO_STORE, () -> x.setSize(store, 1000001));
        dueThrow("sample, used -1", NO_STORE, () -> x.sample(store, -1));
        dueThrow("sample, used 1000001", NO_STORE, () -> x.sample(store, 1000001));
        dueThrow("clean, freed 0", NO_STORE, () -> x.clean(store, 0));
        dueThrow("clean, freed 100001", NO_STORE, () -> x.clean(store, 100001));
        dueThrow("setRule, from -1", NO_STORE, () -> x.setRule(store, -1, 1));
        dueThrow("setRule, from 3001", NO_STORE, () -> x.setRule(store, 3001, 1));
        dueThrow("setRule, every -1", NO_STORE, () -> x.setRule(store, 1, -1));
        dueThrow("setRule, every 101", NO_STORE, () -> x.setRule(store, 1, 101));
        dueThrow("forecast, day -1", NO_STORE, () -> x.forecast(store, -1));
        dueThrow("forecast, day 1001", NO_STORE, () -> x.forecast(store, 1001));
    }

    private static void cleaningsOfWrongSizeBehindTheLast() {
        sentence("clean: the store, then what is freed, then the number of cleanings");
        RoomForecast x = withStores(1);
        for (int i = 0; i < 60; i++) {
            x.clean(0, 5);
        }
        dueThrow("no such store", NO_STORE, () -> x.clean(1, 5));
        dueThrow("freed 0", WRONG, () -> x.clean(0, 0));
        dueThrow("freed 100001", WRONG, () -> x.clean(0, 100001));
        dueThrow("freed in range", STATE, () -> x.clean(0, 100000));
    }

    private static void daysOutOfRangeBehindTheLast() {
        sentence("pass: the range of the days goes ahead of day 2000");
        RoomForecast x = new RoomForecast();
        passTo(x, 2000);
        dueThrow("0 days", WRONG, () -> x.pass(0));
        dueThrow("101 days", WRONG, () -> x.pass(101));
        dueThrow("the most days", WRONG, () -> x.pass(MOST));
        dueThrow("100 days", STATE, () -> x.pass(100));
    }

    private static void theSlopeGoesAheadOfTheDay() {
        sentence("forecast: no slope goes ahead of a day out of range");
        RoomForecast x = withStores(1);
        for (int samples = 0; samples < 2; samples++) {
            for (int day : new int[] {LEAST, -1, 0, 1, 1001, MOST}) {
                dueThrow("day " + day + " of " + samples + " samples", STATE, () -> x.forecast(0, day));
            }
            x.sample(0, 5);
        }
    }

    private static void noSlopeOfNoStore() {
        sentence("the store goes ahead of no slope");
        RoomForecast x = withStores(1);
        dueThrow("numerator", NO_STORE, () -> x.slopeNumerator(1));
        dueThrow("denominator", NO_STORE, () -> x.slopeDenominator(1));
        dueThrow("forecast", NO_STORE, () -> x.forecast(1, 1));
        dueThrow("numerator of a store", STATE, () -> x.slopeNumerator(0));
        dueThrow("denominator of a store", STATE, () -> x.slopeDenominator(0));
        dueThrow("forecast of a store", STATE, () -> x.forecast(0, 1));
    }

    // ---- ranges of the arguments

    private static void rangesOfWhatIsTold() {
        sizesOfNewStores();
        sizesThatAreSet();
        usedRoom();
        freedRoom();
        startOfRule();
        daysOfRule();
        daysThatPass();
    }

    private static void sizesOfNewStores() {
        sentence("addStore: size 1 to 1000000");
        RoomForecast x = new RoomForecast();
        for (int size : new int[] {LEAST, -1, 0, 1000001, MOST}) {
            dueThrow("size " + size, WRONG, () -> x.addStore(size));
        }
        due("size 1", x.addStore(1), 0);
        due("size 1000000", x.addStore(1000000), 1);
        due("the store of 1", x.setSize(0, 2), 1);
        due("the store of 1000000", x.setSize(1, 2), 1000000);
    }

    private static void sizesThatAreSet() {
        sentence("setSize: size 1 to 1000000");
        RoomForecast x = withStores(1);
        for (int size : new int[] {LEAST, -1, 0, 1000001, MOST}) {
            dueThrow("size " + size, WRONG, () -> x.setSize(0, size));
        }
        due("size 1", x.setSize(0, 1), 100);
        due("size 1000000", x.setSize(0, 1000000), 1);
        due("the size before", x.setSize(0, 2), 1000000);
    }

    private static void usedRoom() {
        sentence("sample: used 0 to 1000000");
        RoomForecast x = withStores(1);
        for (int used : new int[] {LEAST, -1, 1000001, MOST}) {
            dueThrow("used " + used, WRONG, () -> x.sample(0, used));
        }
        due("no sample so far", x.samples(0), 0);
        due("used 0", x.sample(0, 0), 1);
        x.pass(1);
        due("used 1000000", x.sample(0, 1000000), 2);
        dueSlope("from 0 to 1000000", x, 1000000, 1);
    }

    private static void freedRoom() {
        sentence("clean: freed 1 to 100000");
        RoomForecast x = withStores(1);
        for (int freed : new int[] {LEAST, -1, 0, 100001, MOST}) {
            dueThrow("freed " + freed, WRONG, () -> x.clean(0, freed));
        }
        due("usual so far", x.usual(0), 0);
        due("freed 100000", x.clean(0, 100000), 1);
        due("usual 100000", x.usual(0), 100000);
        due("freed 1", x.clean(0, 1), 2);
        due("usual 1", x.usual(0), 1);
    }

    private static void startOfRule() {
        sentence("setRule: from 0 to 3000");
        RoomForecast x = flatWithCleaning(2000);
        for (int from : new int[] {LEAST, -1, 3001, MOST}) {
            dueThrow("from " + from, WRONG, () -> x.setRule(0, from, 1));
            dueThrow("no rule from " + from, WRONG, () -> x.setRule(0, from, 0));
        }
        dueNoThrow("from 3000", () -> x.setRule(0, 3000, 1));
        due("day 2999", x.forecast(0, 2999), 500);
        due("day 3000", x.forecast(0, 3000), 490);
        dueNoThrow("from 0", () -> x.setRule(0, 0, 3));
        // 2001 is the 668th day by the rule.
        due("day 2001, by the rule from day 0 on", x.forecast(0, 2001), 490);
        due("day 2003", x.forecast(0, 2003), 490);
        due("day 2004", x.forecast(0, 2004), 480);
    }

    private static void daysOfRule() {
        sentence("setRule: every 0 to 100");
        RoomForecast x = flatWithCleaning(10);
        for (int every : new int[] {LEAST, -1, 101, MOST}) {
            dueThrow("every " + every, WRONG, () -> x.setRule(0, 0, every));
        }
        x.setRule(0, 11, 100);
        due("every 100, day 11", x.forecast(0, 11), 490);
        due("every 100, day 110", x.forecast(0, 110), 490);
        due("every 100, day 111", x.forecast(0, 111), 480);
        x.setRule(0, 11, 1);
        due("every 1, day 11", x.forecast(0, 11), 490);
        due("every 1, day 12", x.forecast(0, 12), 480);
        x.setRule(0, 11, 0);
        due("every 0, day 11", x.forecast(0, 11), 500);
        due("every 0, day 1010", x.forecast(0, 1010), 500);
    }

    private static void daysThatPass() {
        sentence("pass: days 1 to 100");
        RoomForecast x = new RoomForecast();
        for (int days : new int[] {LEAST, -1, 0, 101, MOST}) {
            dueThrow(days + " days", WRONG, () -> x.pass(days));
        }
        due("still today", x.today(), 0);
        due("1 day", x.pass(1), 0);
        due("today", x.today(), 1);
        due("100 days", x.pass(100), 0);
        due("today again", x.today(), 101);
    }

    /** 500 used on day 0 and on a last day; a cleaning of 10 was told ahead of both. */
    private static RoomForecast flatWithCleaning(int lastDay) {
        RoomForecast x = new RoomForecast();
        x.addStore(1000);
        x.clean(0, 10);
        x.sample(0, 500);
        passTo(x, lastDay);
        x.sample(0, 500);
        return x;
    }

    // ---- divisions

    private static void divisions() {
        sentence("Divisions are rounded down");
        RoomForecast x = withSamples(1000, on(0, 9), on(3, 10));
        due("10 1/3", x.forecast(0, 4), 10);
        due("10 2/3", x.forecast(0, 5), 10);
        due("11", x.forecast(0, 6), 11);
        sentence("Divisions are rounded down, also below 0");
        RoomForecast y = withSamples(10, on(0, 11), on(3, 10));
        due("10 less 1/3", y.forecast(0, 4), 9);
        due("10 less 2/3", y.forecast(0, 5), 9);
        due("10 less 1", y.forecast(0, 6), 9);
        due("10 less 4/3", y.forecast(0, 7), 8);
        due("9 2/3 is not full", y.full(0), -1);
        due("9 2/3 fills no pool", y.poolFull(1), -1);
        y.setSize(0, 9);
        due("9 2/3 fills 9", y.full(0), 4);
        due("9 2/3 fills a pool of 9", y.poolFull(1), 4);
        sentence("The used room plus slope * days is rounded down, less cleanings");
        RoomForecast z = withSamples(1000, on(0, 80), on(3, 100));
        z.pass(1);
        z.clean(0, 7);
        z.setRule(0, 4, 1);
        due("106 2/3 less 7", z.forecast(0, 4), 99);
        due("113 1/3 less 14", z.forecast(0, 5), 99);
    }

    // ---- stores

    private static void stores() {
        sentence("there are at most 8 stores, numbered from 0");
        RoomForecast x = new RoomForecast();
        for (int i = 0; i < 8; i++) {
            due("store " + i, x.addStore(10 + i), i);
        }
        dueThrow("a ninth store", STATE, () -> x.addStore(10));
        dueThrow("a tenth store", STATE, () -> x.addStore(10));
        for (int i = 0; i < 8; i++) {
            due("size of store " + i, x.setSize(i, 5), 10 + i);
        }
        oneSampleOnADay();
        aSampleIsBehindTheCleaningsOfItsDay();
        sixtyCleanings();
    }

    private static void oneSampleOnADay() {
        sentence("On a day there can be one sample, in place of one that was told for today");
        RoomForecast x = withSamples(100, on(0, 30), on(0, 0));
        due("two on the first day", x.samples(0), 1);
        dueThrow("two on the first day make no slope", STATE, () -> x.slopeNumerator(0));
        x.pass(1);
        due("one on the next day", x.sample(0, 50), 2);
        due("a second one on this day", x.sample(0, 10), 2);
        dueSlope("the one told last", x, 10, 1);
        due("the forecast starts from it", x.forecast(0, 2), 20);
        x.pass(1);
        due("one on a third day", x.sample(0, 10), 3);
        sentence("A sample in place of the twelfth puts no other one out");
        RoomForecast y = outlierAndSquares(1000000, 11);
        due("in place of the twelfth", y.sample(0, 1121), 12);
        dueSlope("the first one still counts", y, 11, 1);
    }

    private static void aSampleIsBehindTheCleaningsOfItsDay() {
        sentence("A sample is taken behind the cleanings of this day");
        RoomForecast x = withSamples(1000, on(0, 100));
        x.pass(10);
        x.clean(0, 30);
        x.sample(0, 100);
        dueSlope("cleaned ahead of it", x, 3, 1);
        due("its used room is as told", x.forecast(0, 11), 103);
        RoomForecast y = withSamples(1000, on(0, 100), on(10, 100));
        y.clean(0, 30);
        dueSlope("told ahead of the cleaning", y, 3, 1);
        due("its used room is as told, too", y.forecast(0, 11), 103);
        y.sample(0, 90);
        dueSlope("told once more", y, 2, 1);
        y.clean(0, 20);
        dueSlope("two cleanings on this day", y, 4, 1);
    }

    private static void sixtyCleanings() {
        sentence("clean throws IllegalStateException if there have been 60");
        RoomForecast x = withStores(2);
        for (int i = 1; i <= 59; i++) {
            x.clean(0, 5);
        }
        x.pass(100);
        due("the 60th", x.clean(0, 5), 60);
        dueThrow("the 61st", STATE, () -> x.clean(0, 5));
        x.pass(100);
        dueThrow("the 61st on another day", STATE, () -> x.clean(0, 5));
        due("the first one of another store", x.clean(1, 5), 1);
    }

    // ---- slopes

    /** The square of the day, and 1000, on days 1 to the last, behind another first sample. */
    private static RoomForecast outlierAndSquares(int first, int lastDay) {
        RoomForecast x = withSamples(1000000, on(0, first));
        for (int day = 1; day <= lastDay; day++) {
            x.pass(1);
            x.sample(0, 1000 + day * day);
        }
        return x;
    }

    private static void slopes() {
        sentence("What counts of a store are its last samples, at most 12");
        // The slopes of the squares are the sums of two days; those from the first sample are the least.
        RoomForecast x = outlierAndSquares(1000000, 11);
        due("12 samples", x.samples(0), 12);
        dueSlope("the first of 12 counts", x, 11, 1);
        x.pass(1);
        due("13 samples", x.sample(0, 1144), 12);
        dueSlope("the first of 13 does not", x, 13, 1);
        x.pass(1);
        due("14 samples", x.sample(0, 1169), 12);
        dueSlope("the second of 14 does not", x, 15, 1);
        filledRoom();
        middleSlopes();
        noSlope();
        lowestTerms();
        fractionsThatAreClose();
    }

    /** Samples on days 0 and 10, and a cleaning of 30 on one of the days 0 to 11. */
    private static RoomForecast withCleaningOn(int cleaned, boolean aheadOfSample) {
        RoomForecast x = new RoomForecast();
        x.addStore(1000);
        for (int day = 0; day <= 11; day++) {
            if (day == cleaned && aheadOfSample) {
                x.clean(0, 30);
            }
            if (day == 0 || day == 10) {
                x.sample(0, 100);
            }
            if (day == cleaned && !aheadOfSample) {
                x.clean(0, 30);
            }
            x.pass(1);
        }
        return x;
    }

    private static void filledRoom() {
        sentence("plus what all cleanings freed on its day and on earlier ones");
        dueSlope("cleaned on the day of the first sample, behind it", withCleaningOn(0, false), 0, 1);
        dueSlope("cleaned on the day of the first sample, ahead of it", withCleaningOn(0, true), 0, 1);
        dueSlope("cleaned on the day behind the first sample", withCleaningOn(1, false), 3, 1);
        dueSlope("cleaned on the day ahead of the second sample", withCleaningOn(9, false), 3, 1);
        dueSlope("cleaned on the day of the second sample, ahead of it", withCleaningOn(10, true), 3, 1);
        dueSlope("cleaned on the day of the second sample, behind it", withCleaningOn(10, false), 3, 1);
        dueSlope("cleaned on the day behind the second sample", withCleaningOn(11, false), 0, 1);
        sentence("Cleanings ahead of the samples that count free room all the same");
        RoomForecast x = withSamples(1000000, on(0, 1000000));
        x.pass(1);
        x.clean(0, 100000);
        for (int day = 2; day <= 13; day++) {
            x.pass(1);
            x.sample(0, 3 * day);
        }
        dueSlope("they raise all alike", x, 3, 1);
    }

    private static void middleSlopes() {
        sentence("with n slopes the one at the place n / 2, of 2 p of them the one at p - 1");
        // On each day 3 to the power of the day: 1, 3, 6, 10, 15, 21, 28, 36, 45, 55 and 66 slopes;
        // those of 4 samples are 2, 4, 6, 26/3, 12, 18.
        int[] numerators = {2, 4, 6, 12, 26, 54, 108, 180, 2178, 6558, 1620};
        int[] denominators = {1, 1, 1, 1, 1, 1, 1, 1, 5, 7, 1};
        RoomForecast x = withSamples(1000000, on(0, 1));
        int used = 1;
        for (int i = 0; i < numerators.length; i++) {
            used *= 3;
            x.pass(1);
            x.sample(0, used);
            dueSlope("the middle slope of " + (i + 2) + " samples", x, numerators[i], denominators[i]);
        }
        sentence("of 2 p slopes the one at p - 1, with three alike on one side");
        dueSlope("0 0 0 ahead of 10, 15 and 30", withSamples(99, on(0, 0), on(1, 30), on(2, 30), on(3, 30)), 0, 1);
        dueSlope("-30, -15, -10 ahead of 0 0 0", withSamples(99, on(0, 30), on(1, 0), on(2, 0), on(3, 0)), -10, 1);
    }

    private static void noSlope() {
        sentence("With fewer than 2 samples there is no slope");
        RoomForecast x = withStores(2);
        x.sample(1, 5);
        for (int store = 0; store < 2; store++) {
            int asked = store;
            dueThrow("numerator of " + store + " samples", STATE, () -> x.slopeNumerator(asked));
            dueThrow("denominator of " + store + " samples", STATE, () -> x.slopeDenominator(asked));
            dueThrow("forecast of " + store + " samples", STATE, () -> x.forecast(asked, 1));
            due("full of " + store + " samples", x.full(store), -1);
            due("pool with " + store + " samples", x.poolFull(1 << store), -1);
        }
        x.pass(1);
        x.sample(1, 7);
        due("numerator of 2 samples", x.slopeNumerator(1), 2);
        due("denominator of 2 samples", x.slopeDenominator(1), 1);
        due("forecast of 2 samples", x.forecast(1, 2), 9);
        dueThrow("the other store still has none", STATE, () -> x.slopeNumerator(0));
    }

    private static void lowestTerms() {
        sentence("in lowest terms, the denominator above 0");
        dueSlope("6 in 4 days", withSamples(9, on(0, 0), on(4, 6)), 3, 2);
        dueSlope("-6 in 4 days", withSamples(9, on(0, 6), on(4, 0)), -3, 2);
        dueSlope("0 in 7 days", withSamples(9, on(0, 6), on(7, 6)), 0, 1);
        dueSlope("1 in 2000 days", withSamples(9, on(0, 0), on(2000, 1)), 1, 2000);
        dueSlope("-1 in 2000 days", withSamples(9, on(0, 1), on(2000, 0)), -1, 2000);
        dueSlope("1000000 in 2000 days", withSamples(9, on(0, 0), on(2000, 1000000)), 500, 1);
        dueSlope("-1000000 in 1 day", withSamples(9, on(0, 1000000), on(1, 0)), -1000000, 1);
        dueSlope("-999999 in 999 days", withSamples(9, on(0, 999999), on(999, 0)), -1001, 1);
        sentence("the greatest numerator there can be");
        dueSlope("7000000 in 1 day", steep(1000000, 6000000), 7000000, 1);
    }

    /** 0 used on day 0 and so much on day 1, on which so much was freed too. */
    private static RoomForecast steep(int used, int freed) {
        RoomForecast x = withSamples(1000000, on(0, 0), on(1, used));
        for (int left = freed; left > 0; left -= 100000) {
            x.clean(0, Math.min(left, 100000));
        }
        return x;
    }

    private static void fractionsThatAreClose() {
        sentence("slopes are ordered as fractions");
        // 2/3, 1 and 3/2 all have the whole part 0 or 1.
        dueSlope("2/3, 1, 3/2", withSamples(99, on(0, 0), on(3, 2), on(5, 5)), 1, 1);
        // 1, 4/3, 4/3, 13/9, 5/3 and 5/3 all have the whole part 1; the slope 1 is that of the second and the third.
        dueSlope("alike in their whole parts", withSamples(99, on(0, 0), on(3, 5), on(6, 8), on(9, 13)), 4, 3);
        // 1073741/1000, 2147484/2000 and 1073743/1000: the crossed products lie on both sides of 2^31.
        RoomForecast x = new RoomForecast();
        x.addStore(1000000);
        x.sample(0, 0);
        passTo(x, 1000);
        x.clean(0, 73741);
        x.sample(0, 1000000);
        passTo(x, 2000);
        for (int i = 0; i < 11; i++) {
            x.clean(0, i < 10 ? 100000 : 73743);
        }
        x.sample(0, 1000000);
        dueSlope("fractions with great parts", x, 536871, 500);
        // 1500000/1, 500000/2000 and -1000000/1999: the steep slope times 2000 days is more than an int holds.
        RoomForecast y = withSamples(1000000, on(0, 0), on(1, 1000000));
        cleanFiveTimes(y);
        passTo(y, 2000);
        y.sample(0, 0);
        dueSlope("a steep slope ahead of long ones", y, 250, 1);
        // -1000000/1999, 500000/2000 and 1500000/1
        RoomForecast z = withSamples(1000000, on(0, 1000000), on(1999, 0), on(2000, 1000000));
        cleanFiveTimes(z);
        dueSlope("a steep slope behind long ones", z, 250, 1);
    }

    private static void cleanFiveTimes(RoomForecast x) {
        for (int i = 0; i < 5; i++) {
            x.clean(0, 100000);
        }
    }

    // ---- usual sizes

    private static void usualSizes() {
        sentence("the usual size is 0 without any cleanings");
        RoomForecast x = withStores(2);
        due("at first", x.usual(0), 0);
        x.clean(1, 7);
        due("another store's cleanings", x.usual(0), 0);
        RoomForecast y = withSamples(1000, on(0, 10), on(1, 20));
        y.setRule(0, 2, 1);
        due("a rule without cleanings", y.forecast(0, 50), 510);
        sentence("the middle one of what all its cleanings freed, of 2 p of them the one at p - 1");
        RoomForecast z = withStores(1);
        int[] freed = {40, 30, 20, 10, 50, 60, 60};
        int[] want = {40, 30, 30, 20, 30, 30, 40};
        for (int i = 0; i < freed.length; i++) {
            z.clean(0, freed[i]);
            due("usual of " + (i + 1), z.usual(0), want[i]);
        }
        sentence("all its cleanings, up to 60, also those of long ago");
        RoomForecast w = withStores(1);
        for (int i = 1; i <= 60; i++) {
            w.clean(0, 61 - i);
            w.pass(30);
            due("usual of " + i, w.usual(0), 61 - i + (i - 1) / 2);
        }
    }

    // ---- rules

    private static void rules() {
        sentence("or none, as at first");
        due("no rule at first", flatWithCleaning(5).forecast(0, 1005), 500);
        sentence("later than the day of the sample");
        RoomForecast x = flatWithCleaning(5);
        x.setRule(0, 5, 100);
        due("a rule from the day of the sample on, the day behind it", x.forecast(0, 6), 500);
        due("and the last day ahead of the next one by the rule", x.forecast(0, 104), 500);
        due("and the next one", x.forecast(0, 105), 490);
        x.setRule(0, 6, 100);
        due("a rule from the day behind the sample on", x.forecast(0, 6), 490);
        x.setRule(0, 1, 5);
        due("a rule from before the sample, with its second day behind it", x.forecast(0, 6), 490);
        sentence("and not later than the day of the forecast");
        x.setRule(0, 9, 2);
        due("ahead of the rule", x.forecast(0, 8), 500);
        due("on its first day", x.forecast(0, 9), 490);
        due("behind it", x.forecast(0, 10), 490);
        due("on its second day", x.forecast(0, 11), 480);
        sentence("the rule counts from the day of the sample, not from today");
        x.setRule(0, 8, 100);
        passTo(x, 50);
        due("a day by the rule that is past", x.forecast(0, 51), 490);
        sentence("every so many days from a day on");
        x.setRule(0, 0, 7);
        // days 7, 14, .. 49
        due("7 days by the rule up to 49", x.forecast(0, 49), 430);
        due("6 of them up to 48", x.forecast(0, 48), 440);
    }

    // ---- forecasts

    private static void forecasts() {
        forecastAtLeastZero();
        forecastAtMost();
        daysOfForecasts();
    }

    private static void forecastAtLeastZero() {
        sentence("but at least 0");
        RoomForecast x = withSamples(1000, on(0, 4), on(1, 3));
        due("1", x.forecast(0, 3), 1);
        due("0", x.forecast(0, 4), 0);
        due("below 0", x.forecast(0, 5), 0);
        due("far below 0", x.forecast(0, 1001), 0);
        sentence("at least 0 behind cleanings");
        RoomForecast y = withSamples(1000, on(0, 25), on(1, 25));
        y.pass(1);
        y.clean(0, 12);
        y.setRule(0, 2, 1);
        due("13", y.forecast(0, 2), 13);
        due("1 left", y.forecast(0, 3), 1);
        due("below 0 by cleanings", y.forecast(0, 4), 0);
        sentence("at least 0, and up again from what it really was");
        RoomForecast z = withSamples(1000, on(0, 0), on(1, 10));
        z.pass(1);
        z.clean(0, 100);
        z.setRule(0, 2, 100);
        due("far below 0 by a cleaning", z.forecast(0, 2), 0);
        due("again 0", z.forecast(0, 10), 0);
        due("above 0", z.forecast(0, 11), 10);
    }

    private static void forecastAtMost() {
        sentence("and at most 2000000000");
        due("1999999999", steep(499999, 1499501).forecast(0, 1001), 1999999999);
        due("2000000000", steep(500000, 1499500).forecast(0, 1001), 2000000000);
        due("2000000001", steep(500001, 1499499).forecast(0, 1001), 2000000000);
        due("more than an int holds", steep(1000000, 6000000).forecast(0, 1001), 2000000000);
        sentence("at most 2000000000 behind cleanings");
        RoomForecast x = steep(1000000, 6000000);
        x.setRule(0, 1001, 1);
        // 1000000 and 286 * 7000000 are 2003000000; with 31 cleanings less it is 1999900000.
        due("above it without cleanings", x.forecast(0, 287), 2000000000);
        x.setRule(0, 257, 1);
        due("below it with cleanings", x.forecast(0, 287), 1999900000);
    }

    private static void daysOfForecasts() {
        sentence("forecast: a day behind the last sample, up to 1000 days behind it");
        RoomForecast x = withSamples(1000, on(0, 0), on(7, 7));
        x.pass(100);
        for (int day : new int[] {LEAST, -1, 0, 6, 7, 1008, 1107, MOST}) {
            dueThrow("day " + day, WRONG, () -> x.forecast(0, day));
        }
        due("day 8, though it is past", x.forecast(0, 8), 8);
        due("day 1007", x.forecast(0, 1007), 1007);
        x.sample(0, 107);
        dueThrow("day 107 behind a sample on it", WRONG, () -> x.forecast(0, 107));
        due("day 108", x.forecast(0, 108), 108);
        due("day 1107", x.forecast(0, 1107), 1107);
        dueThrow("day 1108", WRONG, () -> x.forecast(0, 1108));
        sentence("forecast: days behind the last day");
        RoomForecast y = withSamples(1000, on(0, 0), on(2000, 2000));
        due("day 2001", y.forecast(0, 2001), 2001);
        due("day 3000", y.forecast(0, 3000), 3000);
        dueThrow("day 3001", WRONG, () -> y.forecast(0, 3001));
        dueThrow("day 2000", WRONG, () -> y.forecast(0, 2000));
    }

    // ---- full

    private static void fullDays() {
        sentence("full: NONE if there is no slope");
        RoomForecast x = withStores(1);
        due("without samples", x.full(0), -1);
        x.sample(0, 1000);
        due("with one sample that is full", x.full(0), -1);
        sentence("on the first day behind its last sample");
        due("full on the day of the sample", withSamples(60, on(0, 60), on(9, 60)).full(0), 10);
        due("full on the day behind it", withSamples(70, on(0, 50), on(9, 59)).full(0), 20);
        due("full on the first day alone", withSamples(50, on(0, 70), on(1, 60)).full(0), 2);
        sentence("whose forecast is its size or more");
        due("its size", withSamples(9, on(0, 0), on(1, 3)).full(0), 3);
        due("one less than its size", withSamples(10, on(0, 0), on(1, 3)).full(0), 4);
        due("more than its size", withSamples(8, on(0, 0), on(1, 3)).full(0), 3);
        sentence("up to 1000 days behind it");
        due("1000 days behind it", withSamples(1005, on(0, 0), on(5, 5)).full(0), 1005);
        due("1001 days behind it", withSamples(1006, on(0, 0), on(5, 5)).full(0), -1);
        due("a slope of 1 in 1000 days", withSamples(2, on(0, 0), on(1000, 1)).full(0), 2000);
        due("never", withSamples(61, on(0, 60), on(9, 60)).full(0), -1);
        sentence("full does not look at today");
        RoomForecast y = withSamples(20, on(0, 0), on(1, 1));
        passTo(y, 2000);
        due("a day long ago", y.full(0), 20);
        fullBetweenCleanings();
    }

    private static void fullBetweenCleanings() {
        sentence("the first day, if cleanings make it full and not full by turns");
        RoomForecast x = withSamples(100, on(0, 0), on(1, 10));
        x.pass(1);
        x.clean(0, 15);
        x.setRule(0, 3, 2);
        // 20 15 25 20 30 25 .. on days 2, 3, ..: on day 2 n it is 15 + 5 n
        due("full on an even day", x.full(0), 34);
        due("on it", x.forecast(0, 34), 100);
        due("behind it", x.forecast(0, 35), 95);
        due("two days ahead of it", x.forecast(0, 32), 95);
        x.setRule(0, 34, 100);
        due("without a cleaning up to day 33", x.full(0), 10);
        x.setRule(0, 10, 100);
        due("with a cleaning on the day on which it would be full", x.full(0), 12);
    }

    // ---- bounds

    private static void bounds() {
        sentence("With fewer than 3 samples there are no bounds");
        RoomForecast x = withStores(1);
        dueDays("0 samples", x, -1, -1, -1);
        x.sample(0, 10);
        dueDays("1 sample", x, -1, -1, -1);
        x.pass(1);
        x.sample(0, 20);
        dueDays("2 samples", x, 9, -1, -1);
        x.sample(0, 20);
        dueDays("2 samples, one told twice", x, 9, -1, -1);
        dueDays("2 samples that are full", withSamples(5, on(0, 9), on(1, 9)), 2, -1, -1);
        x.pass(1);
        x.sample(0, 30);
        dueDays("3 samples", x, 9, 9, 9);
        leastAndGreatest();
        allSamplesAreAmongTheBounds();
        noOtherOneTakesItsPlace();
        daysThatAreNotThere();
        boundsBehindTheirOwnLastSample();
    }

    private static void leastAndGreatest() {
        sentence("The early bound is the least, the late bound the greatest");
        // 15 a day from 30; without the first 20, without the last 10 from 10
        dueDays("early without the first, late without the last",
                withSamples(100, on(0, 0), on(1, 10), on(2, 30)), 7, 6, 10);
        // 15 a day from 30; without the first 10, without the last 20 from 20
        dueDays("early without the last, late without the first",
                withSamples(100, on(0, 0), on(1, 20), on(2, 30)), 7, 5, 9);
        // 50/3 a day from 80; without the second 70/4, without the last 15 from 60
        dueDays("early without the second",
                withSamples(1000, on(0, 10), on(1, 30), on(2, 10), on(3, 60), on(4, 80)), 60, 57, 66);
        // 50/3 a day from 80; without the fourth 70/4, without the first 15
        dueDays("early without the fourth, late without the first",
                withSamples(1000, on(0, 10), on(1, 30), on(2, 60), on(3, 60), on(4, 80)), 60, 57, 66);
        // 20 a day from 80; without the second 15, without the third or the fourth 16
        dueDays("late without the second",
                withSamples(1000, on(0, 0), on(1, 0), on(2, 40), on(3, 80), on(4, 60), on(5, 80)), 51, 51, 67);
        // 20 a day from 80; without the fourth 10, without the first 80/3
        dueDays("late without the fourth",
                withSamples(1000, on(0, 0), on(1, 0), on(2, 10), on(3, 80), on(4, 80)), 50, 39, 96);
    }

    private static void allSamplesAreAmongTheBounds() {
        sentence("with all samples that count, too");
        RoomForecast x = new RoomForecast();
        x.addStore(160);
        x.clean(0, 50);
        int[][] rising = {on(2, 5), on(3, 15), on(4, 25), on(5, 35), on(8, 60)};
        for (int[] told : rising) {
            passTo(x, told[0]);
            x.sample(0, told[1]);
        }
        x.setRule(0, 6, 100);
        // 10 a day from 60; without one of the first four less; without the last one 50 are freed on day 6
        dueDays("early with all", x, 18, 18, 23);
        RoomForecast y = new RoomForecast();
        y.addStore(50);
        y.clean(0, 50);
        int[][] bent = {on(0, 10), on(1, 15), on(4, 36), on(5, 29), on(6, 30), on(7, 41), on(9, 49), on(10, 64)};
        for (int[] told : bent) {
            passTo(y, told[0]);
            y.sample(0, told[1]);
        }
        y.setRule(0, 11, 10);
        // 31/7 a day from 64, less 50; without one of the first seven 14/3 or more; without the last full at once
        dueDays("late with all", y, 19, 10, 19);
    }

    private static void noOtherOneTakesItsPlace() {
        sentence("no other one takes its place");
        RoomForecast x = outlierAndSquares(1000000, 12);
        x.setSize(0, 10000);
        // With all the middle slope is 13 from 1144 on, without day 1 it is 14, without day 12 it is 12 from 1121 on.
        dueDays("13 samples", x, 694, 645, 751);
        due("all 12 count again", x.samples(0), 12);
        dueSlope("and make the slope", x, 13, 1);
    }

    private static void daysThatAreNotThere() {
        sentence("a day that is not there counts as later than all others");
        // 5 a day from 10; without the first 0, without the last 10 from 10
        dueDays("one is not there", withSamples(100, on(0, 0), on(1, 10), on(2, 10)), 20, 10, -1);
        // 0 a day from 0; without the first -1, without the last 1 from 10
        dueDays("one is there", withSamples(100, on(0, 0), on(10, 10), on(20, 0)), -1, 100, -1);
        dueDays("none is there", withSamples(1000000, on(0, 0), on(10, 10), on(20, 0)), -1, -1, -1);
        dueDays("all are there", withSamples(30, on(0, 0), on(10, 10), on(20, 20)), 30, 30, 30);
    }

    private static void boundsBehindTheirOwnLastSample() {
        sentence("up to 1000 days behind the last sample that is not left out");
        dueDays("1000 days behind the one before", withSamples(1001, on(0, 0), on(1, 1), on(10, 10)), 1001, 1001, 1001);
        dueDays("1001 days behind the one before", withSamples(1002, on(0, 0), on(1, 1), on(10, 10)), 1002, 1002, -1);
        dueDays("1000 days behind the last one", withSamples(1010, on(0, 0), on(1, 1), on(10, 10)), 1010, 1010, -1);
        dueDays("1001 days behind the last one", withSamples(1011, on(0, 0), on(1, 1), on(10, 10)), -1, -1, -1);
        sentence("the first day behind the last sample that is not left out");
        dueDays("full between the last two", withSamples(5, on(0, 0), on(1, 1), on(10, 10)), 11, 5, 11);
        dueDays("full on the day behind the one before", withSamples(1, on(0, 0), on(1, 1), on(10, 10)), 11, 2, 11);
    }

    // ---- pools

    private static void pools() {
        bitsOfPools();
        daysOfPools();
        sentence("or a store has no slope");
        RoomForecast x = withStores(3);
        x.sample(0, 1000);
        x.sample(1, 1000);
        x.pass(1);
        x.sample(0, 1000);
        due("a store with a slope", x.poolFull(1), 2);
        due("a store with one sample", x.poolFull(2), -1);
        due("a store with none", x.poolFull(4), -1);
        due("the full one and the one with one sample", x.poolFull(3), -1);
        due("the full one and the one with none", x.poolFull(5), -1);
        x.sample(1, 0);
        due("both have slopes", x.poolFull(3), 2);
        RoomForecast y = withStores(2);
        y.sample(1, 1000);
        y.pass(1);
        y.sample(1, 1000);
        due("the one with none ahead of the full one", y.poolFull(3), -1);
        due("a store that is not in the pool may have none", x.poolFull(1), 2);
        sumsOfPools();
    }

    private static void bitsOfPools() {
        for (int number = 0; number <= 8; number++) {
            sentence("stores has no bit, or one that stands for no store, of " + number);
            RoomForecast x = withStores(number);
            int all = (1 << number) - 1;
            dueThrow("no bit", WRONG, () -> x.poolFull(0));
            for (int bit = number; bit < 32; bit++) {
                int wrong = 1 << bit;
                dueThrow("bit " + bit + " alone", WRONG, () -> x.poolFull(wrong));
                dueThrow("bit " + bit + " with all stores", WRONG, () -> x.poolFull(wrong | all));
            }
            dueThrow("all bits", WRONG, () -> x.poolFull(-1));
            for (int bit = 0; bit < number; bit++) {
                due("the store " + bit, x.poolFull(1 << bit), -1);
            }
            if (number > 0) {
                due("all stores", x.poolFull(all), -1);
            }
        }
        sentence("bit s stands for the store s");
        RoomForecast y = withStores(8);
        for (int day = 0; day < 2; day++) {
            for (int store = 0; store < 8; store++) {
                y.sample(store, day * (store + 1));
            }
            y.pass(1);
        }
        int[] want = {100, 50, 34, 25, 20, 17, 15, 13};
        for (int store = 0; store < 8; store++) {
            due("the store " + store, y.poolFull(1 << store), want[store]);
        }
        // 36 a day for 800
        due("all of them", y.poolFull(255), 23);
    }

    private static void daysOfPools() {
        sentence("from tomorrow");
        RoomForecast x = withSamples(10, on(0, 10), on(1, 10));
        due("full today", x.poolFull(1), 2);
        x.pass(1);
        due("full a day ago", x.poolFull(1), 3);
        RoomForecast y = withSamples(20, on(0, 0), on(1, 1));
        passTo(y, 19);
        due("full tomorrow", y.poolFull(1), 20);
        y.pass(1);
        due("first full today", y.poolFull(1), 21);
        RoomForecast z = withSamples(10, on(0, 30), on(1, 29));
        passTo(z, 19);
        due("no more full behind tomorrow", z.poolFull(1), 20);
        z.pass(1);
        due("no more full tomorrow", z.poolFull(1), -1);
        sentence("up to 1000 days from today");
        RoomForecast w = withSamples(1007, on(0, 0), on(5, 5));
        due("1002 days from today", w.poolFull(1), -1);
        w.pass(1);
        due("1001 days from today", w.poolFull(1), -1);
        w.pass(1);
        due("1000 days from today, 1002 behind the last sample", w.poolFull(1), 1007);
        w.pass(100);
        due("fewer days", w.poolFull(1), 1007);
        passTo(w, 2000);
        w.setSize(0, 3000);
        due("day 3000", w.poolFull(1), 3000);
        w.setSize(0, 3001);
        due("day 3001", w.poolFull(1), -1);
    }

    private static RoomForecast twoStores(int size, int from, int to, int otherSize, int otherFrom, int otherTo) {
        RoomForecast x = new RoomForecast();
        x.addStore(size);
        x.addStore(otherSize);
        x.sample(0, from);
        x.sample(1, otherFrom);
        x.pass(1);
        x.sample(0, to);
        x.sample(1, otherTo);
        return x;
    }

    private static void sumsOfPools() {
        sentence("the forecasts together are as much as their sizes together, or more");
        RoomForecast x = twoStores(10, 7, 7, 20, 0, 1);
        due("7 and one more each day are 30", x.poolFull(3), 23);
        x.setSize(1, 21);
        due("31", x.poolFull(3), 24);
        due("two more each day are 30 or more", twoStores(10, 7, 7, 20, 0, 2).poolFull(3), 12);
        due("29 are not 30", twoStores(10, 7, 7, 20, 22, 22).poolFull(3), -1);
        due("30 are", twoStores(10, 7, 7, 20, 23, 23).poolFull(3), 2);
        sentence("forecasts of stores in a pool are at least 0 each");
        due("one at 0, not below", twoStores(10, 2, 1, 20, 20, 21).poolFull(3), 10);
        sentence("forecasts of stores in a pool are at most 2000000000 each, together more than an int holds");
        RoomForecast y = new RoomForecast();
        for (int i = 0; i < 8; i++) {
            y.addStore(1000000);
            y.sample(i, 0);
        }
        y.pass(1);
        for (int i = 0; i < 8; i++) {
            y.sample(i, 1000000);
            for (int n = 0; n < 30; n++) {
                y.clean(i, 100000);
            }
        }
        passTo(y, 1000);
        for (int stores = 1; stores <= 8; stores++) {
            due(stores + " stores", y.poolFull((1 << stores) - 1), 1001);
        }
        sentence("cleanings by the rule free room in pools");
        RoomForecast z = twoStores(100, 0, 0, 100, 80, 90);
        z.pass(1);
        z.clean(1, 50);
        z.setRule(1, 5, 100);
        // 90 and 10 more each day, 50 less from day 5 on
        due("a rule of one store", z.poolFull(3), 17);
    }

    // ---- warnings

    /** One more each day: the early bound is the day that is the size, from 3 on. Today is 2. */
    private static RoomForecast rising() {
        return withSamples(1000000, on(0, 0), on(1, 1), on(2, 2));
    }

    /** Passes a day with an early bound so many days behind the day that begins. */
    private static int passWithDaysLeft(RoomForecast x, int left) {
        x.setSize(0, x.today() + 1 + left);
        return x.pass(1);
    }

    private static void dueWarns(String what, boolean want, int... daysLeft) {
        RoomForecast x = rising();
        for (int left : daysLeft) {
            passWithDaysLeft(x, left);
        }
        due(what, x.warns(0), want);
    }

    private static void warnings() {
        sentence("off at first");
        due("a new store", withStores(1).warns(0), false);
        due("near, but not looked at", withSamples(3, on(0, 1), on(1, 2), on(2, 3)).warns(0), false);
        sentence("at most 14 days later than today");
        dueWarns("14 and 14", true, 14, 14);
        dueWarns("14 and 15", false, 14, 15);
        dueWarns("15 and 14", false, 15, 14);
        dueWarns("0 and 0", true, 0, 0);
        sentence("a bound that is past is at most 14 days later");
        RoomForecast x = withSamples(10, on(0, 0), on(1, 1), on(2, 2));
        passTo(x, 50);
        x.setSize(0, 1000);
        due("off", x.pass(1), 1);
        x.setSize(0, 10);
        due("41 days ago for the first time", x.pass(1), 0);
        due("42 days ago for the second time", x.pass(1), 1);
        sentence("and was so when it was looked at on the day before");
        dueWarns("near for one day", false, 14);
        dueWarns("near on the first and the third day", false, 14, 15, 14);
        dueWarns("near on the third and the fourth day", true, 14, 15, 14, 14);
        dueWarns("near on the first and the third day, not there between", false, 14, 900000, 14);
        nearWhenNotLookedAt();
        goingOff();
        eachDayOfAPass();
        theEarlyBoundIsLookedAt();
        manyWarnings();
    }

    private static void nearWhenNotLookedAt() {
        sentence("It is looked at whenever a day passes");
        RoomForecast x = rising();
        passWithDaysLeft(x, 15);
        x.setSize(0, 4);
        due("near, but not looked at", x.warns(0), false);
        due("near for the first time that it is looked at", passWithDaysLeft(x, 14), 0);
        x.setSize(0, 900000);
        due("not near, but not looked at", passWithDaysLeft(x, 14), 1);
        x.setSize(0, 900000);
        due("far, but not looked at", x.warns(0), true);
        sentence("with the day that begins as today");
        RoomForecast y = rising();
        y.setSize(0, 18);
        due("15 days left on day 3", y.pass(1), 0);
        due("14 days left on day 4", y.pass(1), 0);
        due("13 days left on day 5", y.pass(1), 1);
    }

    private static void goingOff() {
        sentence("it goes off, if the early bound is more than 21 days later than today");
        dueWarns("21", true, 14, 14, 21);
        dueWarns("22", false, 14, 14, 22);
        dueWarns("on behind 15 days and more", true, 14, 14, 15, 18, 21, 21);
        dueWarns("off behind 22 days, and not on again for 21 or 15", false, 14, 14, 22, 21, 15);
        dueWarns("off, and on again", true, 14, 14, 22, 14, 14);
        dueWarns("on behind 15 days, then a day that is past", true, 14, 14, 15, -2);
        sentence("or not there");
        RoomForecast x = rising();
        passWithDaysLeft(x, 14);
        due("on", passWithDaysLeft(x, 14), 1);
        x.setSize(0, 1000000);
        due("not there", x.early(0), -1);
        due("off", x.pass(1), 1);
        due("it is off", x.warns(0), false);
        sentence("fewer than 3 samples have no bounds and no warning");
        RoomForecast y = withSamples(1, on(0, 1), on(1, 1));
        due("full all the time", y.pass(100), 0);
        due("off", y.warns(0), false);
    }

    private static void eachDayOfAPass() {
        sentence("Returns how many warnings went on or off in them: each day is looked at");
        RoomForecast x = rising();
        x.setSize(0, 20);
        due("days 3 to 6, of which the last is near", x.pass(4), 0);
        due("off", x.warns(0), false);
        RoomForecast y = rising();
        y.setSize(0, 20);
        due("days 3 to 7, of which the last two are near", y.pass(5), 1);
        due("on", y.warns(0), true);
        due("on for 93 days more", y.pass(93), 0);
        y.setSize(0, 150);
        due("day 101 is 49 days ahead: off; day 136 is the first near one", y.pass(36), 1);
        due("off again", y.warns(0), false);
        due("on on day 137", y.pass(1), 1);
        sentence("a warning that goes off and on again in one call");
        y.setSize(0, 200);
        due("off on day 138, on on day 187", y.pass(60), 2);
        due("on again", y.warns(0), true);
    }

    private static void theEarlyBoundIsLookedAt() {
        sentence("the early bound, not another day, is looked at");
        // 15 a day from 30; without the first 20 a day, without the last 10 a day from 10
        RoomForecast x = withSamples(330, on(0, 0), on(1, 10), on(2, 30));
        dueDays("the days", x, 22, 17, 33);
        due("day 3 is the first that is near", x.pass(1), 0);
        due("day 4", x.pass(1), 1);
        RoomForecast y = withSamples(350, on(0, 0), on(1, 10), on(2, 30));
        dueDays("the days", y, 24, 18, 35);
        due("day 3 is not near", y.pass(1), 0);
        due("day 4 is", y.pass(1), 0);
        due("day 5", y.pass(1), 1);
        y.setSize(0, 450);
        dueDays("the days", y, 30, 23, 45);
        due("18 days left, but 25 to the day with all samples", y.pass(1), 0);
    }

    private static void manyWarnings() {
        sentence("Each store has a warning");
        RoomForecast x = withStores(8);
        for (int day = 0; day < 3; day++) {
            for (int store = 0; store < 8; store++) {
                x.sample(store, day * 100);
            }
            x.pass(1);
        }
        due("eight on the second day that is near", x.pass(1), 8);
        for (int store = 0; store < 8; store++) {
            x.setSize(store, 1000000);
            due("store " + store + " goes off", x.pass(1), 1);
            due("it is off", x.warns(store), false);
            due("the next one is on", x.warns(Math.min(7, store + 1)), store < 7);
            due("those before stay off", x.pass(1), 0);
        }
    }

    // ---- days

    private static void days() {
        sentence("pass throws IllegalStateException if today would be above 2000");
        RoomForecast x = new RoomForecast();
        passTo(x, 1901);
        dueThrow("from 1901 to 2001", STATE, () -> x.pass(100));
        due("today", x.today(), 1901);
        due("from 1901 to 2000", x.pass(99), 0);
        due("today then", x.today(), 2000);
        dueThrow("from 2000 to 2001", STATE, () -> x.pass(1));
        due("still today", x.today(), 2000);
        RoomForecast y = new RoomForecast();
        passTo(y, 1900);
        due("from 1900 to 2000", y.pass(100), 0);
        due("the last day", y.today(), 2000);
    }
}
