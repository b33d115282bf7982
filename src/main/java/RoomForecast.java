import java.util.ArrayList;

/** Tells the day on which stores are full. ../shared/DOC.md says what each call answers. */
public final class RoomForecast {
    public static final int NONE = -1;

    private static final int MOST_STORES = 8;
    private static final int MOST_ROOM = 1000000;
    private static final int MOST_FREED = 100000;
    private static final int MOST_CLEANINGS = 60;
    private static final int MOST_SAMPLES = 12;
    private static final int MOST_PAIRS = MOST_SAMPLES * (MOST_SAMPLES - 1) / 2;
    private static final int FEWEST_FOR_SLOPE = 2;
    private static final int FEWEST_FOR_BOUNDS = 3;
    private static final int LAST_RULE_START = 3000;
    private static final int MOST_RULE_DAYS = 100;
    private static final int MOST_PASSED_DAYS = 100;
    private static final int LAST_DAY = 2000;
    private static final int DAYS_AHEAD = 1000;
    private static final int MOST_FORECAST = 2000000000;
    private static final int WARN_DAYS = 14;
    private static final int CALM_DAYS = 21;
    private static final int NOTHING_LEFT_OUT = -1;

    /** A day that is not there counts as later than all others: no forecast reaches this one. */
    private static final int NEVER = 1000000;

    private final ArrayList<Store> stores;
    private int currentDay;

    public RoomForecast() {
        stores = new ArrayList<>();
        currentDay = 0;
    }

    // ---- stores

    public int addStore(int size) throws IllegalArgumentException, IllegalStateException {
        demandRange(size, 1, MOST_ROOM);
        if (stores.size() >= MOST_STORES) {
            throw new IllegalStateException("no more stores");
        }
        stores.add(new Store(size));
        return stores.size() - 1;
    }

    public int setSize(int store, int size) throws IndexOutOfBoundsException, IllegalArgumentException {
        Store changed = storeAt(store);
        demandRange(size, 1, MOST_ROOM);
        int before = changed.size;
        changed.size = size;
        return before;
    }

    public int sample(int store, int used) throws IndexOutOfBoundsException, IllegalArgumentException {
        Store sampled = storeAt(store);
        demandRange(used, 0, MOST_ROOM);
        sampled.tellUsed(currentDay, used);
        return sampled.samples.number();
    }

    public int clean(int store, int freed)
            throws IndexOutOfBoundsException, IllegalArgumentException, IllegalStateException {
        Store cleaned = storeAt(store);
        demandRange(freed, 1, MOST_FREED);
        if (cleaned.cleanings.number() >= MOST_CLEANINGS) {
            throw new IllegalStateException("no more cleanings");
        }
        cleaned.tellFreed(currentDay, freed);
        return cleaned.cleanings.number();
    }

    public void setRule(int store, int from, int every)
            throws IndexOutOfBoundsException, IllegalArgumentException {
        Store ruled = storeAt(store);
        demandRange(from, 0, LAST_RULE_START);
        demandRange(every, 0, MOST_RULE_DAYS);
        ruled.rule.change(from, every);
    }

    public int pass(int days) throws IllegalArgumentException, IllegalStateException {
        demandRange(days, 1, MOST_PASSED_DAYS);
        if (currentDay + days > LAST_DAY) {
            throw new IllegalStateException("beyond the last day");
        }
        int changes = 0;
        for (int i = 0; i < stores.size(); i++) {
            changes += stores.get(i).lookOnDaysAfter(currentDay, days);
        }
        currentDay += days;
        return changes;
    }

    public int today() {
        return currentDay;
    }

    // ---- what follows

    public int samples(int store) throws IndexOutOfBoundsException {
        return storeAt(store).samples.number();
    }

    public int slopeNumerator(int store) throws IndexOutOfBoundsException, IllegalStateException {
        return slopeOf(store).riseInLowestTerms();
    }

    public int slopeDenominator(int store) throws IndexOutOfBoundsException, IllegalStateException {
        return slopeOf(store).runInLowestTerms();
    }

    public int usual(int store) throws IndexOutOfBoundsException {
        return storeAt(store).cleanings.usualSize();
    }

    public int forecast(int store, int day)
            throws IndexOutOfBoundsException, IllegalStateException, IllegalArgumentException {
        Store asked = storeAt(store);
        Line line = slopeOf(store);
        demandRange(day, line.startDay + 1, line.startDay + DAYS_AHEAD);
        return asked.roomOn(day);
    }

    public int full(int store) throws IndexOutOfBoundsException {
        return dayOrNone(storeAt(store).fullDay());
    }

    public int early(int store) throws IndexOutOfBoundsException {
        return dayOrNone(storeAt(store).earlyBound());
    }

    public int late(int store) throws IndexOutOfBoundsException {
        return dayOrNone(storeAt(store).lateBound());
    }

    public boolean warns(int store) throws IndexOutOfBoundsException {
        return storeAt(store).warning.on;
    }

    public int poolFull(int stores) throws IllegalArgumentException {
        if (stores == 0 || (stores >>> this.stores.size()) != 0) {
            throw new IllegalArgumentException("not a pool of stores");
        }
        if (!drawPool(stores)) {
            return NONE;
        }
        long sizes = poolSize(stores);
        for (int ahead = 1; ahead <= DAYS_AHEAD; ahead++) {
            if (poolRoomOn(stores, currentDay + ahead) >= sizes) {
                return currentDay + ahead;
            }
        }
        return NONE;
    }

    // ---- helpers of the face

    private static void demandRange(int value, int least, int most) throws IllegalArgumentException {
        if (value < least || value > most) {
            throw new IllegalArgumentException("out of range");
        }
    }

    private Store storeAt(int store) throws IndexOutOfBoundsException {
        if (store < 0 || store >= stores.size()) {
            throw new IndexOutOfBoundsException("no such store");
        }
        return stores.get(store);
    }

    /** The line through all samples of a store that count. */
    private Line slopeOf(int store) throws IndexOutOfBoundsException, IllegalStateException {
        Store asked = storeAt(store);
        if (!asked.hasSlope()) {
            throw new IllegalStateException("no slope");
        }
        asked.drawLineWithout(NOTHING_LEFT_OUT);
        return asked.line;
    }

    private static int dayOrNone(int day) {
        return day == NEVER ? NONE : day;
    }

    private static int middlePlace(int number) {
        return (number - 1) / 2;
    }

    private static boolean isInPool(int pool, int store) {
        return ((pool >>> store) & 1) == 1;
    }

    /** Makes the stores of a pool ready for forecasts; tells whether all of them have slopes. */
    private boolean drawPool(int pool) {
        boolean allHaveSlopes = true;
        for (int i = 0; i < stores.size(); i++) {
            if (isInPool(pool, i)) {
                allHaveSlopes = allHaveSlopes && stores.get(i).hasSlope();
                stores.get(i).drawLineWithout(NOTHING_LEFT_OUT);
            }
        }
        return allHaveSlopes;
    }

    private long poolSize(int pool) {
        long sum = 0;
        for (int i = 0; i < stores.size(); i++) {
            if (isInPool(pool, i)) {
                sum += stores.get(i).size;
            }
        }
        return sum;
    }

    private long poolRoomOn(int pool, int day) {
        long sum = 0;
        for (int i = 0; i < stores.size(); i++) {
            if (isInPool(pool, i)) {
                sum += stores.get(i).roomOn(day);
            }
        }
        return sum;
    }

    // ---- the parts of a store

    private static final class Store {
        private final Samples samples = new Samples();
        private final PairSlopes slopes = new PairSlopes();
        private final Cleanings cleanings = new Cleanings();
        private final Rule rule = new Rule();
        private final Line line = new Line();
        private final Warning warning = new Warning();
        private int size;

        Store(int size) {
            this.size = size;
        }

        void tellUsed(int day, int used) {
            samples.put(day, used, cleanings.freedInAll());
            slopes.orderAll(samples);
        }

        void tellFreed(int day, int freed) {
            cleanings.put(freed);
            samples.addFreedOn(day, freed);
            slopes.orderAll(samples);
        }

        boolean hasSlope() {
            return samples.number() >= FEWEST_FOR_SLOPE;
        }

        /** Sets the line that roomOn follows. */
        void drawLineWithout(int leftOut) {
            int last = samples.lastPlaceWithout(leftOut);
            int middle = slopes.middlePlaceWithout(leftOut);
            line.start(samples.dayAt(last), samples.usedAt(last));
            line.climb(slopes.riseAt(middle), slopes.runAt(middle));
        }

        /** The forecast by the line that was drawn last, for a day behind its start. */
        int roomOn(int day) {
            long cleaned = (long) cleanings.usualSize() * rule.daysWithin(line.startDay, day);
            long room = line.heightOn(day) - cleaned;
            return (int) Math.min(Math.max(room, 0L), (long) MOST_FORECAST);
        }

        int fullDay() {
            return hasSlope() ? fullDayWithout(NOTHING_LEFT_OUT) : NEVER;
        }

        private int fullDayWithout(int leftOut) {
            drawLineWithout(leftOut);
            int step = 1;
            for (int ahead = 1; ahead <= DAYS_AHEAD; ahead += step) {
                int missing = size - roomOn(line.startDay + ahead);
                if (missing <= 0) {
                    return line.startDay + ahead;
                }
                // Cleanings only lower the room, so no day that is stepped over can be full.
                step = Math.max(1, line.leastDaysToClimb(missing));
            }
            return NEVER;
        }

        int earlyBound() {
            if (samples.number() < FEWEST_FOR_BOUNDS) {
                return NEVER;
            }
            int least = fullDayWithout(NOTHING_LEFT_OUT);
            for (int leftOut = 0; leftOut < samples.number(); leftOut++) {
                least = Math.min(least, fullDayWithout(leftOut));
            }
            return least;
        }

        int lateBound() {
            if (samples.number() < FEWEST_FOR_BOUNDS) {
                return NEVER;
            }
            int greatest = fullDayWithout(NOTHING_LEFT_OUT);
            for (int leftOut = 0; leftOut < samples.number(); leftOut++) {
                greatest = Math.max(greatest, fullDayWithout(leftOut));
            }
            return greatest;
        }

        /** Looks at the warning on each of the days; returns how often it went on or off. */
        int lookOnDaysAfter(int day, int days) {
            // Nothing can be told while days pass, so one bound serves for all of them.
            int bound = earlyBound();
            int changes = 0;
            for (int passed = 1; passed <= days; passed++) {
                if (warning.lookChanges(bound, day + passed)) {
                    changes++;
                }
            }
            return changes;
        }
    }

    /** The samples that count, in the order of their days. */
    private static final class Samples {
        private final int[] days = new int[MOST_SAMPLES];
        private final int[] used = new int[MOST_SAMPLES];
        private final int[] filled = new int[MOST_SAMPLES];
        private int count;

        int number() {
            return count;
        }

        void put(int day, int usedRoom, int freedInAll) {
            if (!lastIsOf(day)) {
                openLastPlace();
            }
            int last = count - 1;
            if (has(last)) {
                days[last] = day;
                used[last] = usedRoom;
                filled[last] = usedRoom + freedInAll;
            }
        }

        /** A sample counts as taken behind all cleanings of its day, those told later too. */
        void addFreedOn(int day, int freed) {
            if (lastIsOf(day)) {
                filled[count - 1] += freed;
            }
        }

        int dayAt(int place) {
            return has(place) ? days[place] : 0;
        }

        int usedAt(int place) {
            return has(place) ? used[place] : 0;
        }

        int filledAt(int place) {
            return has(place) ? filled[place] : 0;
        }

        int lastPlaceWithout(int leftOut) {
            return leftOut == count - 1 ? count - 2 : count - 1;
        }

        private boolean has(int place) {
            return place >= 0 && place < count;
        }

        private boolean lastIsOf(int day) {
            return count > 0 && days[count - 1] == day;
        }

        private void openLastPlace() {
            if (count < MOST_SAMPLES) {
                count++;
                return;
            }
            for (int i = 1; i < MOST_SAMPLES; i++) {
                days[i - 1] = days[i];
                used[i - 1] = used[i];
                filled[i - 1] = filled[i];
            }
        }
    }

    /** The slopes of all pairs of samples, as fractions rise / run, ordered by size. */
    private static final class PairSlopes {
        private final int[] rises = new int[MOST_PAIRS];
        private final int[] runs = new int[MOST_PAIRS];
        private final int[] earlier = new int[MOST_PAIRS];
        private final int[] later = new int[MOST_PAIRS];
        private int count;
        private int sampleCount;

        void orderAll(Samples samples) {
            count = 0;
            sampleCount = samples.number();
            for (int to = 1; to < samples.number(); to++) {
                for (int from = 0; from < to; from++) {
                    putInOrder(samples, from, to);
                }
            }
        }

        private void putInOrder(Samples samples, int from, int to) {
            if (count >= MOST_PAIRS) {
                return;
            }
            int rise = samples.filledAt(to) - samples.filledAt(from);
            int run = samples.dayAt(to) - samples.dayAt(from);
            int place = count;
            while (place > 0 && isGreater(place - 1, rise, run)) {
                rises[place] = rises[place - 1];
                runs[place] = runs[place - 1];
                earlier[place] = earlier[place - 1];
                later[place] = later[place - 1];
                place--;
            }
            rises[place] = rise;
            runs[place] = run;
            earlier[place] = from;
            later[place] = to;
            count++;
        }

        /** Both runs are above 0, so that the crossed products compare as the fractions do. */
        private boolean isGreater(int place, int rise, int run) {
            return (long) riseAt(place) * run > (long) rise * runAt(place);
        }

        /** The place of the middle slope among those of the pairs without a sample; -1 if none. */
        int middlePlaceWithout(int leftOut) {
            int wanted = middlePlace(numberWithout(leftOut));
            int seen = 0;
            for (int i = 0; i < count; i++) {
                if (isWithout(i, leftOut)) {
                    if (seen == wanted) {
                        return i;
                    }
                    seen++;
                }
            }
            return -1;
        }

        private int numberWithout(int leftOut) {
            int taken = leftOut == NOTHING_LEFT_OUT ? sampleCount : sampleCount - 1;
            return taken * (taken - 1) / 2;
        }

        private boolean isWithout(int place, int leftOut) {
            return place >= 0 && place < count && earlier[place] != leftOut && later[place] != leftOut;
        }

        int riseAt(int place) {
            return has(place) ? rises[place] : 0;
        }

        int runAt(int place) {
            return has(place) ? runs[place] : 1;
        }

        private boolean has(int place) {
            return place >= 0 && place < count;
        }
    }

    /** What the cleanings freed, ordered by size. */
    private static final class Cleanings {
        private final int[] sizes = new int[MOST_CLEANINGS];
        private int count;
        private int freedInAll;

        int number() {
            return count;
        }

        int freedInAll() {
            return freedInAll;
        }

        void put(int freed) {
            if (count >= MOST_CLEANINGS) {
                return;
            }
            int place = count;
            while (place > 0 && sizes[place - 1] > freed) {
                sizes[place] = sizes[place - 1];
                place--;
            }
            sizes[place] = freed;
            count++;
            freedInAll += freed;
        }

        int usualSize() {
            return count > 0 ? sizes[middlePlace(count)] : 0;
        }
    }

    /** The rule for cleanings to come. */
    private static final class Rule {
        private int from;
        private int every;

        void change(int newFrom, int newEvery) {
            from = newFrom;
            every = newEvery;
        }

        /** How many days by the rule are later than one day and not later than the other. */
        int daysWithin(int after, int until) {
            return daysUntil(until) - daysUntil(after);
        }

        private int daysUntil(int day) {
            return every > 0 && day >= from ? (day - from) / every + 1 : 0;
        }
    }

    /** The straight way of the used room from a sample on, without the cleanings to come. */
    private static final class Line {
        private int startDay;
        private int startUsed;
        private int rise;
        private int run = 1;

        void start(int day, int used) {
            startDay = day;
            startUsed = used;
        }

        void climb(int newRise, int newRun) {
            rise = newRise;
            run = newRun;
        }

        long heightOn(int day) {
            long climbed = (long) rise * (day - startDay);
            return startUsed + (run > 0 ? Math.floorDiv(climbed, (long) run) : 0L);
        }

        /** The line cannot climb this high in fewer days; one that does not climb at all never can. */
        int leastDaysToClimb(int height) {
            if (rise <= 0) {
                return DAYS_AHEAD;
            }
            return (int) Math.min((height - 1L) * run / rise + 1L, (long) DAYS_AHEAD);
        }

        int riseInLowestTerms() {
            int divisor = commonDivisor();
            return divisor > 0 ? rise / divisor : rise;
        }

        int runInLowestTerms() {
            int divisor = commonDivisor();
            return divisor > 0 ? run / divisor : run;
        }

        /** Euclid's way; a remainder of these sizes is 0 after fewer than 64 steps. */
        private int commonDivisor() {
            int divisor = Math.abs(rise);
            int remainder = run;
            for (int step = 0; step < 64 && remainder > 0; step++) {
                int next = divisor % remainder;
                divisor = remainder;
                remainder = next;
            }
            return divisor;
        }
    }

    private static final class Warning {
        private boolean on;
        private boolean wasNear;

        /** Looks at the warning on a day; tells whether it went on or off. */
        boolean lookChanges(int earlyBound, int day) {
            boolean before = on;
            int daysLeft = earlyBound - day;
            boolean near = daysLeft <= WARN_DAYS;
            if (near && wasNear) {
                on = true;
            } else if (daysLeft > CALM_DAYS) {
                on = false;
            }
            wasNear = near;
            return on != before;
        }
    }
}
