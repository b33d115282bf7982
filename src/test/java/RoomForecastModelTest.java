import java.math.BigInteger;
import java.util.ArrayList;
import java.util.Arrays;
import java.util.Collections;
import java.util.List;
import java.util.Random;

/** Compares random runs of calls with a slow model that follows the document word by word. */
public final class RoomForecastModelTest {
    private static final int RUNS = 600;
    private static final int CALLS = 200;
    /** So many calls an object is used for; one run in LONG_RUNS makes them all. */
    private static final int MOST_CALLS = 512;
    private static final int LONG_RUNS = 10;
    private static final String NO_STORE = "IndexOutOfBoundsException";
    private static final String WRONG = "IllegalArgumentException";
    private static final String STATE = "IllegalStateException";

    private record Told(int day, int amount) {
    }

    private record Slope(BigInteger rise, BigInteger run) implements Comparable<Slope> {
        @Override
        public int compareTo(Slope other) {
            return rise.multiply(other.run).compareTo(other.rise.multiply(run));
        }

        long times(int days) {
            BigInteger[] parts = rise.multiply(BigInteger.valueOf(days)).divideAndRemainder(run);
            return parts[0].longValueExact() - (parts[1].signum() < 0 ? 1 : 0);
        }
    }

    /** What the document says of one store, from all that was ever told. */
    private static final class ModelStore {
        int size;
        int from = 0;
        int every = 0;
        boolean on = false;
        boolean nearOnDayBefore = false;
        final List<Told> samples = new ArrayList<>();
        final List<Told> cleanings = new ArrayList<>();

        List<Told> counting() {
            return new ArrayList<>(samples.subList(Math.max(0, samples.size() - 12), samples.size()));
        }

        long filled(Told sample) {
            long sum = sample.amount;
            for (Told cleaning : cleanings) {
                sum += cleaning.day <= sample.day ? cleaning.amount : 0;
            }
            return sum;
        }

        Slope slope(List<Told> taken) {
            List<Slope> slopes = new ArrayList<>();
            for (int i = 0; i < taken.size(); i++) {
                for (int j = i + 1; j < taken.size(); j++) {
                    slopes.add(new Slope(BigInteger.valueOf(filled(taken.get(j)) - filled(taken.get(i))),
                            BigInteger.valueOf(taken.get(j).day - taken.get(i).day)));
                }
            }
            Collections.sort(slopes);
            return middle(slopes);
        }

        int usual() {
            List<Integer> freed = new ArrayList<>();
            for (Told cleaning : cleanings) {
                freed.add(cleaning.amount);
            }
            Collections.sort(freed);
            return freed.isEmpty() ? 0 : middle(freed);
        }

        private static <T> T middle(List<T> ordered) {
            int n = ordered.size();
            if (n == 0) {
                return null;
            }
            return n % 2 == 1 ? ordered.get(n / 2) : ordered.get(n / 2 - 1);
        }

        /** The forecasts for the days behind the last sample, as many as asked. */
        long[] forecasts(List<Told> taken, int days) {
            Told last = taken.get(taken.size() - 1);
            Slope slope = slope(taken);
            long usual = usual();
            long cleaned = 0;
            long[] rooms = new long[days + 1];
            for (int ahead = 1; ahead <= days; ahead++) {
                int day = last.day + ahead;
                if (every > 0 && day >= from && (day - from) % every == 0) {
                    cleaned += usual;
                }
                long room = last.amount + slope.times(ahead) - cleaned;
                rooms[ahead] = Math.min(2000000000L, Math.max(0, room));
            }
            return rooms;
        }

        Integer full(List<Told> taken) {
            long[] rooms = forecasts(taken, 1000);
            for (int ahead = 1; ahead <= 1000; ahead++) {
                if (rooms[ahead] >= size) {
                    return taken.get(taken.size() - 1).day + ahead;
                }
            }
            return null;
        }

        /** All days of the bounds; null stands for a day that is not there. */
        List<Integer> boundDays() {
            List<Integer> days = new ArrayList<>();
            if (counting().size() >= 3) {
                days.add(full(counting()));
                for (int i = 0; i < counting().size(); i++) {
                    List<Told> taken = counting();
                    taken.remove(i);
                    days.add(full(taken));
                }
            }
            return days;
        }

        int early() {
            int best = -1;
            for (Integer day : boundDays()) {
                if (day != null && (best == -1 || day < best)) {
                    best = day;
                }
            }
            return best;
        }

        int late() {
            int best = -1;
            for (Integer day : boundDays()) {
                if (day == null) {
                    return -1;
                }
                best = Math.max(best, day);
            }
            return best;
        }
    }

    /** What the document says of all; an answer is a text, an exception's name behind "throws.". */
    private static final class Model {
        final List<ModelStore> stores = new ArrayList<>();
        int today = 0;

        String answer(String call, int[] a) {
            boolean takesStore = !call.equals("addStore") && !call.equals("pass")
                    && !call.equals("today") && !call.equals("poolFull");
            if (takesStore && (a[0] < 0 || a[0] >= stores.size())) {
                return "throws." + NO_STORE;
            }
            ModelStore s = takesStore ? stores.get(a[0]) : null;
            switch (call) {
                case "addStore": return addStore(a[0]);
                case "setSize": return setSize(s, a[1]);
                case "sample": return sample(s, a[1]);
                case "clean": return clean(s, a[1]);
                case "setRule": return setRule(s, a[1], a[2]);
                case "pass": return pass(a[0]);
                case "today": return "" + today;
                case "samples": return "" + s.counting().size();
                case "slopeNumerator": return slope(s, true);
                case "slopeDenominator": return slope(s, false);
                case "usual": return "" + s.usual();
                case "forecast": return forecast(s, a[1]);
                case "full": return full(s);
                case "early": return "" + s.early();
                case "late": return "" + s.late();
                case "warns": return "" + s.on;
                default: return poolFull(a[0]);
            }
        }

        private static boolean within(int value, int least, int most) {
            return least <= value && value <= most;
        }

        private String addStore(int size) {
            if (!within(size, 1, 1000000)) {
                return "throws." + WRONG;
            }
            if (stores.size() == 8) {
                return "throws." + STATE;
            }
            ModelStore s = new ModelStore();
            s.size = size;
            stores.add(s);
            return "" + (stores.size() - 1);
        }

        private String setSize(ModelStore s, int size) {
            if (!within(size, 1, 1000000)) {
                return "throws." + WRONG;
            }
            int before = s.size;
            s.size = size;
            return "" + before;
        }

        private String sample(ModelStore s, int used) {
            if (!within(used, 0, 1000000)) {
                return "throws." + WRONG;
            }
            s.samples.removeIf(told -> told.day == today);
            s.samples.add(new Told(today, used));
            return "" + s.counting().size();
        }

        private String clean(ModelStore s, int freed) {
            if (!within(freed, 1, 100000)) {
                return "throws." + WRONG;
            }
            if (s.cleanings.size() == 60) {
                return "throws." + STATE;
            }
            s.cleanings.add(new Told(today, freed));
            return "" + s.cleanings.size();
        }

        private String setRule(ModelStore s, int from, int every) {
            if (!within(from, 0, 3000) || !within(every, 0, 100)) {
                return "throws." + WRONG;
            }
            s.from = from;
            s.every = every;
            return "nothing";
        }

        private String pass(int days) {
            if (!within(days, 1, 100)) {
                return "throws." + WRONG;
            }
            if (today + days > 2000) {
                return "throws." + STATE;
            }
            int changes = 0;
            for (ModelStore s : stores) {
                int early = s.early();
                for (int day = today + 1; day <= today + days; day++) {
                    boolean near = early != -1 && early <= day + 14;
                    boolean far = early == -1 || early > day + 21;
                    if (!s.on && near && s.nearOnDayBefore) {
                        s.on = true;
                        changes++;
                    } else if (s.on && far) {
                        s.on = false;
                        changes++;
                    }
                    s.nearOnDayBefore = near;
                }
            }
            today += days;
            return "" + changes;
        }

        private String slope(ModelStore s, boolean numerator) {
            Slope slope = s.slope(s.counting());
            if (slope == null) {
                return "throws." + STATE;
            }
            BigInteger part = numerator ? slope.rise : slope.run;
            return "" + part.divide(slope.rise.gcd(slope.run));
        }

        private String forecast(ModelStore s, int day) {
            List<Told> taken = s.counting();
            if (taken.size() < 2) {
                return "throws." + STATE;
            }
            int last = taken.get(taken.size() - 1).day;
            if (!within(day, last + 1, last + 1000)) {
                return "throws." + WRONG;
            }
            return "" + s.forecasts(taken, day - last)[day - last];
        }

        private String full(ModelStore s) {
            Integer day = s.counting().size() < 2 ? null : s.full(s.counting());
            return "" + (day == null ? -1 : day);
        }

        private String poolFull(int pool) {
            long sizes = 0;
            boolean slopes = true;
            long[] rooms = new long[1001];
            for (int bit = 0; bit < 32; bit++) {
                if ((pool & (1 << bit)) != 0) {
                    if (bit >= stores.size()) {
                        return "throws." + WRONG;
                    }
                    slopes &= stores.get(bit).counting().size() >= 2;
                }
            }
            if (pool == 0) {
                return "throws." + WRONG;
            }
            for (int bit = 0; slopes && bit < stores.size(); bit++) {
                if ((pool & (1 << bit)) != 0) {
                    ModelStore s = stores.get(bit);
                    List<Told> taken = s.counting();
                    int behind = today - taken.get(taken.size() - 1).day;
                    long[] forecasts = s.forecasts(taken, behind + 1000);
                    for (int ahead = 1; ahead <= 1000; ahead++) {
                        rooms[ahead] += forecasts[behind + ahead];
                    }
                    sizes += s.size;
                }
            }
            for (int ahead = 1; slopes && ahead <= 1000; ahead++) {
                if (rooms[ahead] >= sizes) {
                    return "" + (today + ahead);
                }
            }
            return "-1";
        }
    }

    private static String answer(RoomForecast x, String call, int[] a) {
        try {
            switch (call) {
                case "addStore": return "" + x.addStore(a[0]);
                case "setSize": return "" + x.setSize(a[0], a[1]);
                case "sample": return "" + x.sample(a[0], a[1]);
                case "clean": return "" + x.clean(a[0], a[1]);
                case "setRule": x.setRule(a[0], a[1], a[2]); return "nothing";
                case "pass": return "" + x.pass(a[0]);
                case "today": return "" + x.today();
                case "samples": return "" + x.samples(a[0]);
                case "slopeNumerator": return "" + x.slopeNumerator(a[0]);
                case "slopeDenominator": return "" + x.slopeDenominator(a[0]);
                case "usual": return "" + x.usual(a[0]);
                case "forecast": return "" + x.forecast(a[0], a[1]);
                case "full": return "" + x.full(a[0]);
                case "early": return "" + x.early(a[0]);
                case "late": return "" + x.late(a[0]);
                case "warns": return "" + x.warns(a[0]);
                default: return "" + x.poolFull(a[0]);
            }
        } catch (RuntimeException thrown) {
            // What the machine or the library throws is never due: it is told with its thrower.
            String thrower = thrown.getStackTrace()[0].getClassName();
            return "throws." + thrown.getClass().getSimpleName()
                    + (thrower.equals("RoomForecast") ? "" : " in " + thrower);
        }
    }

    /** Makes the calls of one run, in one of several scales of numbers. */
    private static final class Caller {
        private static final String[] CALLS_BY_WEIGHT = {
            "sample", "sample", "sample", "sample", "sample", "sample", "pass", "pass", "pass", "pass", "pass",
            "clean", "clean", "setRule", "setSize", "addStore", "today", "samples", "slopeNumerator",
            "slopeDenominator", "usual", "forecast", "forecast", "full", "early", "late", "warns", "poolFull"};
        final Random random;
        final int stores;
        final int room;
        final int growth;
        final int stride;
        final int wrongPart;

        Caller(long seed) {
            random = new Random(seed);
            stores = 1 + random.nextInt(random.nextInt(4) == 0 ? 8 : 3);
            room = new int[] {20, 200, 5000, 1000000}[random.nextInt(4)];
            growth = random.nextInt(4);
            stride = new int[] {1, 3, 20, 100}[random.nextInt(4)];
            wrongPart = new int[] {4, 15, 100}[random.nextInt(3)];
        }

        String call(int number) {
            if (number < stores) {
                return "addStore";
            }
            return CALLS_BY_WEIGHT[random.nextInt(CALLS_BY_WEIGHT.length)];
        }

        int[] arguments(String call, int today) {
            int store = random.nextInt(wrongPart) == 0 ? odd(8) : random.nextInt(stores);
            switch (call) {
                case "addStore": return new int[] {orOdd(1 + random.nextInt(room), 1000000)};
                case "setSize": return new int[] {store, orOdd(1 + random.nextInt(room), 1000000)};
                case "sample": return new int[] {store, orOdd(used(today), 1000000)};
                case "clean": return new int[] {store, orOdd(1 + random.nextInt(Math.min(100000, room / 4)), 100000)};
                case "setRule": return new int[] {store, orOdd(random.nextInt(3001) * random.nextInt(2) / (1 + random.nextInt(50)), 3000),
                        orOdd(random.nextInt(random.nextBoolean() ? 4 : 101), 100)};
                case "pass": return new int[] {orOdd(1 + random.nextInt(stride), 100)};
                case "forecast": return new int[] {store, orOdd(today - random.nextInt(5)
                        + random.nextInt(random.nextBoolean() ? 10 : 1010), today + 1000)};
                case "poolFull": return new int[] {orOdd(random.nextInt(1 << stores), (1 << stores) - 1)};
                default: return new int[] {store};
            }
        }

        private int used(int today) {
            long noise = random.nextInt(2 + room / 10);
            long used = growth == 0 ? random.nextInt(room)
                    : growth == 1 ? noise + (long) room * today / 400
                    : growth == 2 ? room - noise - (long) room * today / 400
                    : (long) (today * 3) + random.nextInt(3);
            return (int) Math.max(0, Math.min(1000000, used));
        }

        private int orOdd(int usual, int most) {
            return random.nextInt(wrongPart * 2) == 0 ? odd(most) : usual;
        }

        private int odd(int most) {
            int[] values = {-1, 0, 1, most - 1, most, most + 1, Integer.MIN_VALUE, Integer.MAX_VALUE};
            return values[random.nextInt(values.length)];
        }
    }

    /** Takes the number of the first run and the number of runs, if others than those of .ci/run. */
    public static void main(String[] args) {
        int first = args.length > 0 ? Integer.parseInt(args[0]) : 0;
        int runs = args.length > 1 ? Integer.parseInt(args[1]) : RUNS;
        int compared = 0;
        for (int run = first; run < first + runs; run++) {
            RoomForecast x = new RoomForecast();
            Model model = new Model();
            Caller caller = new Caller(run);
            StringBuilder told = new StringBuilder();
            int calls = run % LONG_RUNS == 0 ? MOST_CALLS : CALLS;
            for (int number = 0; number < calls; number++) {
                String call = caller.call(number);
                int[] arguments = caller.arguments(call, model.today);
                String want = model.answer(call, arguments);
                String got = answer(x, call, arguments);
                told.append(call).append(Arrays.toString(arguments)).append(" -> ").append(got).append('\n');
                compared++;
                if (!got.equals(want)) {
                    System.out.println("run " + run + ", due is " + want + " for the last of these:\n" + told);
                    System.exit(1);
                }
            }
        }
        System.out.println(compared + " answers are as the model's");
    }
}
