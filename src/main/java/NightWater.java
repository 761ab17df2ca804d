/**
 * Night water: leaks of a town's pipes reckoned by zones from night lows, zones put together by
 * valves that stand open, two listeners on a pipe, steps by closing valves, digs and pressure.
 *
 * Each part keeps its own state and refuses its own wrong numbers; this class is only the face.
 */
public final class NightWater {
    public static final int NONE = -1, BAD = -2, NO = -3, FULL = -4;
    public static final int NOT = -2000000000;

    private final Zones zones;
    private final Valves valves;
    private final Listeners listeners;
    private final Steps steps;
    private final Digs digs;

    public NightWater() {
        zones = new Zones();
        valves = new Valves(zones);
        listeners = new Listeners();
        steps = new Steps();
        digs = new Digs();
    }

    // ---- zones

    public int zone(int customers, int big) {
        return zones.add(customers, big);
    }

    public int rules(int e, int u) {
        return zones.setRules(e, u);
    }

    public int read(int zone, int hour, boolean in, int v) {
        return zones.setReading(zone, hour, in, v);
    }

    public int low(int zone, int what) {
        return zones.lowPart(zone, what);
    }

    public int leaks(int zone, int what) {
        return zones.leak(zone, what);
    }

    public int valve(int a, int b) {
        return valves.add(a, b);
    }

    public int group(int zone, int set) {
        return valves.leastOfGroup(zone, set);
    }

    public int explains(int set) {
        return valves.answerExplains(set);
    }

    public int fewest() {
        return valves.fewestSet();
    }

    // ---- listeners

    public int sample(int listener, int i, int v) {
        return listeners.setSample(listener, i, v);
    }

    public int echo(int listener, int i, int j, int n) {
        return listeners.copySamples(listener, i, j, n);
    }

    public int sum(int d, int what) {
        return listeners.sumPart(d, what);
    }

    public int delay(boolean second) {
        return listeners.findDelay(second);
    }

    public int place(int length, int s, int t, int what) {
        return listeners.twicePlace(length, s, t, what);
    }

    // ---- steps, digs, pressure

    public int section(int n, int i, int weight) {
        return steps.setWeight(n, i, weight);
    }

    public int cost(int a, int b) {
        return steps.planCost(a, b);
    }

    public int closes(int a, int b) {
        return steps.planStart(a, b);
    }

    public int closings(int i) {
        return steps.closingsFor(i);
    }

    public int dig(int loses, int hours) {
        return digs.add(loses, hours);
    }

    public int clear() {
        return digs.removeAll();
    }

    public int lost() {
        return digs.lostInOrder();
    }

    public int order(int i) {
        return digs.inOrder(i);
    }

    public int pulled(int v, int p, int q) {
        return Pressure.leakAt(v, p, q);
    }

    public int count(int what) {
        switch (what) {
            case 0: return zones.number();
            case 1: return valves.number();
            case 2: return steps.number();
            case 3: return digs.number();
            case 4: return zones.readingsLost();
            case 5: return listeners.samplesLost();
            default: return BAD;
        }
    }

    public long digest() {
        long h = 197;
        for (int what = 0; what <= 5; what++) {
            h = mix(h, count(what));
        }
        h = zones.mixInto(h);
        h = valves.mixInto(h);
        h = listeners.mixInto(h);
        h = steps.mixInto(h);
        return digs.mixInto(h);
    }

    // ---- what all parts use

    private static boolean outside(int v, int least, int greatest) {
        return v < least || v > greatest;
    }

    private static long mix(long h, int v) {
        return 31 * h + v;
    }

    /** The zones with their readings and the rules of meters and customers. */
    private static final class Zones {
        static final int MOST = 8;
        private static final int HOURS = 24;
        private static final int GREATEST_READING = 20000;

        private final int[] customers = new int[MOST];
        private final int[] bigs = new int[MOST];
        private final int[][] ins = new int[MOST][HOURS];
        private final int[][] outs = new int[MOST][HOURS];
        private int size = 0;
        private int error = 20;
        private int use = 2;

        int number() {
            return size;
        }

        boolean isNone(int zone) {
            return outside(zone, 0, size - 1);
        }

        int add(int itsCustomers, int itsBig) {
            if (outside(itsCustomers, 0, 5000) || outside(itsBig, 0, 5000)) {
                return BAD;
            }
            if (size >= MOST) {
                return FULL;
            }
            customers[size] = itsCustomers;
            bigs[size] = itsBig;
            size++;
            return size - 1;
        }

        int setRules(int e, int u) {
            if (outside(e, 0, 200) || outside(u, 0, 20)) {
                return BAD;
            }
            error = e;
            use = u;
            return 1;
        }

        int setReading(int zone, int hour, boolean in, int v) {
            // a LOST reading is kept as NONE, which stands just below the readings
            if (isNone(zone) || outside(hour, 0, HOURS - 1) || outside(v, NONE, GREATEST_READING)) {
                return BAD;
            }
            int[] row = in ? ins[zone] : outs[zone];
            int was = row[hour];
            row[hour] = v;
            return was;
        }

        int lowPart(int zone, int what) {
            if (isNone(zone) || outside(what, 0, 2)) {
                return NOT;
            }
            int hour = lowHour(zone);
            if (hour == NONE) {
                return NOT;
            }
            if (what == 2) {
                return hour;
            }
            return what == 0 ? leastNet(zone, hour) : greatestNet(zone, hour);
        }

        /** NOT can be no leak, so that it also tells that a zone has no LOW. */
        int leak(int zone, int what) {
            if (isNone(zone) || outside(what, 0, 1)) {
                return NOT;
            }
            int hour = lowHour(zone);
            if (hour == NONE) {
                return NOT;
            }
            if (what == 0) {
                return leastNet(zone, hour) - bigs[zone] - customers[zone] * use;
            }
            return greatestNet(zone, hour) - bigs[zone];
        }

        int readingsLost() {
            int lost = 0;
            for (int zone = 0; zone < size; zone++) {
                for (int hour = 0; hour < HOURS; hour++) {
                    lost += ins[zone][hour] == NONE ? 1 : 0;
                    lost += outs[zone][hour] == NONE ? 1 : 0;
                }
            }
            return lost;
        }

        long mixInto(long before) {
            long h = before;
            for (int zone = 0; zone < size; zone++) {
                h = mix(h, leak(zone, 0));
                h = mix(h, leak(zone, 1));
                for (int hour = 0; hour < HOURS; hour++) {
                    h = mix(h, ins[zone][hour]);
                    h = mix(h, outs[zone][hour]);
                }
            }
            return h;
        }

        private int lowHour(int zone) {
            int best = NONE;
            int bestNet = 0;
            for (int hour = 1; hour <= 4; hour++) {
                if (ins[zone][hour] != NONE && outs[zone][hour] != NONE) {
                    int net = greatestNet(zone, hour);
                    if (best == NONE || net < bestNet) {
                        best = hour;
                        bestNet = net;
                    }
                }
            }
            return best;
        }

        private int leastNet(int zone, int hour) {
            return leastOf(ins[zone][hour]) - greatestOf(outs[zone][hour]);
        }

        private int greatestNet(int zone, int hour) {
            return greatestOf(ins[zone][hour]) - leastOf(outs[zone][hour]);
        }

        private int leastOf(int told) {
            return told * (1000 - error) / 1000;
        }

        private int greatestOf(int told) {
            return (told * (1000 + error) + 999) / 1000;
        }
    }

    /** The valves between zones, and what sets of them put together. */
    private static final class Valves {
        private static final int MOST = 12;

        private final Zones zones;
        private final int[] from = new int[MOST];
        private final int[] to = new int[MOST];
        private int size = 0;

        // rows of the reckoning, used again by every call: by zone its greatest leak and the least
        // zone of its group, by that least zone the group's greatest leak and whether it has one
        private final int[] zoneLeak = new int[Zones.MOST];
        private final int[] leader = new int[Zones.MOST];
        private final int[] groupLeak = new int[Zones.MOST];
        private final boolean[] untold = new boolean[Zones.MOST];

        Valves(Zones zones) {
            this.zones = zones;
        }

        int number() {
            return size;
        }

        int add(int a, int b) {
            if (zones.isNone(a) || zones.isNone(b) || a == b) {
                return BAD;
            }
            if (size >= MOST) {
                return FULL;
            }
            from[size] = a;
            to[size] = b;
            size++;
            return size - 1;
        }

        int leastOfGroup(int zone, int set) {
            if (zones.isNone(zone) || isNoSet(set)) {
                return BAD;
            }
            putTogether(set);
            return leader[zone];
        }

        int answerExplains(int set) {
            if (isNoSet(set)) {
                return BAD;
            }
            reckonLeaks();
            return isExplained(set) ? 1 : 0;
        }

        int fewestSet() {
            reckonLeaks();
            int all = allValves();
            // more valves only join groups that stand: what all of them leave below 0,
            // some group of every smaller set leaves below 0 too
            if (!isExplained(all)) {
                return NONE;
            }
            int best = all;
            for (int set = 0; set < all; set++) {
                if (Integer.bitCount(set) < Integer.bitCount(best) && isExplained(set)) {
                    best = set;
                }
            }
            return best;
        }

        long mixInto(long before) {
            long h = before;
            for (int valve = 0; valve < size; valve++) {
                h = mix(h, from[valve]);
                h = mix(h, to[valve]);
            }
            return h;
        }

        private int allValves() {
            return (1 << size) - 1;
        }

        private boolean isNoSet(int set) {
            return outside(set, 0, allValves());
        }

        private void reckonLeaks() {
            for (int zone = 0; zone < zones.number(); zone++) {
                zoneLeak[zone] = zones.leak(zone, 1);
            }
        }

        private boolean isExplained(int set) {
            putTogether(set);
            int many = zones.number();
            for (int zone = 0; zone < many; zone++) {
                groupLeak[zone] = 0;
                untold[zone] = false;
            }
            for (int zone = 0; zone < many; zone++) {
                if (zoneLeak[zone] == NOT) {
                    untold[leader[zone]] = true;
                } else {
                    groupLeak[leader[zone]] += zoneLeak[zone];
                }
            }
            for (int zone = 0; zone < many; zone++) {
                if (!untold[zone] && groupLeak[zone] < 0) {
                    return false;
                }
            }
            return true;
        }

        private void putTogether(int set) {
            for (int zone = 0; zone < zones.number(); zone++) {
                leader[zone] = zone;
            }
            for (int valve = 0; valve < size; valve++) {
                if ((set >> valve & 1) == 1) {
                    join(leader[from[valve]], leader[to[valve]]);
                }
            }
        }

        private void join(int a, int b) {
            int least = Math.min(a, b);
            int other = Math.max(a, b);
            for (int zone = 0; zone < zones.number(); zone++) {
                if (leader[zone] == other) {
                    leader[zone] = least;
                }
            }
        }
    }

    /** The rows of samples of two listeners, and the delay between them. */
    private static final class Listeners {
        private static final int SAMPLES = 64;
        private static final int FARTHEST = 16;
        private static final int NO_DELAY = NONE - 100;

        private final int[][] rows = new int[2][SAMPLES];

        int setSample(int listener, int i, int v) {
            if (outside(listener, 0, 1) || outside(i, 0, SAMPLES - 1)) {
                return BAD;
            }
            if (v != NOT && outside(v, -1000, 1000)) {
                return BAD;
            }
            rows[listener][i] = v;
            return 1;
        }

        int copySamples(int listener, int i, int j, int n) {
            if (outside(listener, 0, 1) || outside(n, 1, SAMPLES)
                    || outside(i, 0, SAMPLES - n) || outside(j, 0, SAMPLES - n)) {
                return BAD;
            }
            for (int k = 0; k < n; k++) {
                rows[listener][i + k] = rows[1 - listener][j + k];
            }
            return 1;
        }

        int sumPart(int d, int what) {
            if (outside(d, -FARTHEST, FARTHEST) || outside(what, 0, 1)) {
                return NOT;
            }
            return what == 0 ? sumAt(d) : pairsAt(d);
        }

        int findDelay(boolean second) {
            int first = bestDelayAwayFrom(NO_DELAY);
            return second ? bestDelayAwayFrom(first) : first;
        }

        int twicePlace(int length, int s, int t, int what) {
            if (outside(length, 1, 100000) || outside(s, 1, 2000) || outside(t, s, 2000)
                    || outside(what, 0, 1)) {
                return BAD;
            }
            int d = findDelay(false);
            if (d == NO_DELAY) {
                return NO;
            }
            int slow = onPipe(length - d * s, length);
            int fast = onPipe(length - d * t, length);
            return what == 0 ? Math.min(slow, fast) : Math.max(slow, fast);
        }

        int samplesLost() {
            int lost = 0;
            for (int i = 0; i < SAMPLES; i++) {
                lost += rows[0][i] == NOT ? 1 : 0;
                lost += rows[1][i] == NOT ? 1 : 0;
            }
            return lost;
        }

        long mixInto(long before) {
            long h = before;
            for (int listener = 0; listener <= 1; listener++) {
                for (int i = 0; i < SAMPLES; i++) {
                    h = mix(h, rows[listener][i]);
                }
            }
            return h;
        }

        /** NO_DELAY lies beside no delay: away from it all of them are looked at. */
        private int bestDelayAwayFrom(int centre) {
            int best = NO_DELAY;
            long bestSum = 0;
            long bestPairs = 0;
            // 0, -1, 1, -2, 2 ..: of like delays the one that goes first comes first
            for (int turn = 0; turn <= 2 * FARTHEST; turn++) {
                int d = turn % 2 == 0 ? turn / 2 : -(turn / 2) - 1;
                if (Math.abs(d - centre) > 1) {
                    long sum = sumAt(d);
                    long pairs = pairsAt(d);
                    if (pairs > 0 && (best == NO_DELAY || sum * bestPairs > bestSum * pairs)) {
                        best = d;
                        bestSum = sum;
                        bestPairs = pairs;
                    }
                }
            }
            return best;
        }

        private int sumAt(int d) {
            int sum = 0;
            for (int i = 0; i < SAMPLES; i++) {
                if (isPair(i, i + d)) {
                    sum += rows[0][i] * rows[1][i + d];
                }
            }
            return sum;
        }

        private int pairsAt(int d) {
            int pairs = 0;
            for (int i = 0; i < SAMPLES; i++) {
                if (isPair(i, i + d)) {
                    pairs++;
                }
            }
            return pairs;
        }

        private boolean isPair(int i, int j) {
            return !outside(i, 0, SAMPLES - 1) && !outside(j, 0, SAMPLES - 1)
                    && rows[0][i] != NOT && rows[1][j] != NOT;
        }

        private static int onPipe(int twice, int length) {
            return Math.max(0, Math.min(2 * length, twice));
        }
    }

    /** The sections in a line, and the plans that tell by closings where the leak is. */
    private static final class Steps {
        private static final int MOST = 12;

        private final int[] weights = new int[MOST];
        private int size = 1;

        // by first and last section the plan's cost, and where it closes first
        private final int[][] costs = new int[MOST][MOST];
        private final int[][] starts = new int[MOST][MOST];

        Steps() {
            planAll();
        }

        int number() {
            return size;
        }

        int setWeight(int n, int i, int weight) {
            if (outside(n, 1, MOST) || outside(i, 0, n - 1) || outside(weight, 0, 1000)) {
                return BAD;
            }
            for (int gone = n; gone < size; gone++) {
                weights[gone] = 0;
            }
            size = n;
            int was = weights[i];
            weights[i] = weight;
            planAll();
            return was;
        }

        int planCost(int a, int b) {
            return isNoStretch(a, b) ? BAD : costs[a][b];
        }

        int planStart(int a, int b) {
            return isNoStretch(a, b) ? BAD : starts[a][b];
        }

        int closingsFor(int i) {
            if (outside(i, 0, size - 1)) {
                return BAD;
            }
            int a = 0;
            int b = size - 1;
            int closings = 0;
            while (a < b && closings < MOST) {
                int k = starts[a][b];
                if (i < k) {
                    b = k - 1;
                } else {
                    a = k;
                }
                closings++;
            }
            return closings;
        }

        long mixInto(long before) {
            long h = before;
            for (int i = 0; i < size; i++) {
                h = mix(h, weights[i]);
            }
            return h;
        }

        private boolean isNoStretch(int a, int b) {
            return outside(b, 0, size - 1) || outside(a, 0, b);
        }

        private void planAll() {
            for (int a = size - 1; a >= 0; a--) {
                costs[a][a] = 0;
                starts[a][a] = NONE;
                int weight = weights[a];
                for (int b = a + 1; b < size; b++) {
                    weight += weights[b];
                    planStretch(a, b, weight);
                }
            }
        }

        /** The plans of all shorter stretches within a .. b stand when this is called. */
        private void planStretch(int a, int b, int weight) {
            int best = a + 1;
            for (int k = a + 2; k <= b; k++) {
                if (costOfParts(a, k, b) < costOfParts(a, best, b)) {
                    best = k;
                }
            }
            starts[a][b] = best;
            costs[a][b] = weight + costOfParts(a, best, b);
        }

        private int costOfParts(int a, int k, int b) {
            return costs[a][k - 1] + costs[k][b];
        }
    }

    /** The digs as they come, and the order that loses least. */
    private static final class Digs {
        private static final int MOST = 8;

        private final int[] losses = new int[MOST];
        private final int[] durations = new int[MOST];
        private final int[] ranked = new int[MOST];
        private int size = 0;

        int number() {
            return size;
        }

        int add(int loses, int hours) {
            if (outside(loses, 0, 1000) || outside(hours, 1, 100)) {
                return BAD;
            }
            if (size >= MOST) {
                return FULL;
            }
            losses[size] = loses;
            durations[size] = hours;
            rankNext(size);
            size++;
            return size - 1;
        }

        int removeAll() {
            int were = size;
            size = 0;
            return were;
        }

        int lostInOrder() {
            int time = 0;
            int lost = 0;
            for (int i = 0; i < size; i++) {
                int dig = ranked[i];
                time += durations[dig];
                lost += losses[dig] * time;
            }
            return lost;
        }

        int inOrder(int i) {
            return outside(i, 0, size - 1) ? NONE : ranked[i];
        }

        long mixInto(long before) {
            long h = before;
            for (int dig = 0; dig < size; dig++) {
                h = mix(h, losses[dig]);
                h = mix(h, durations[dig]);
            }
            return h;
        }

        /**
         * Orders that lose least are just those in which what is lost an hour of digging never
         * grows: the dig goes behind all that are as good, for they have lesser numbers.
         */
        private void rankNext(int dig) {
            int at = dig;
            while (at > 0 && goesAhead(dig, ranked[at - 1])) {
                ranked[at] = ranked[at - 1];
                at--;
            }
            ranked[at] = dig;
        }

        private boolean goesAhead(int dig, int other) {
            return losses[dig] * durations[other] > losses[other] * durations[dig];
        }
    }

    /** How pressure pulls on a leak. */
    private static final class Pressure {
        static int leakAt(int v, int p, int q) {
            if (outside(v, 0, 100000) || outside(p, 1, 100) || outside(q, 1, 100)) {
                return BAD;
            }
            long before = pull(p);
            // never so for the pressures let in: the divisor is looked at all the same
            if (before <= 0) {
                return BAD;
            }
            return (int) (v * pull(q) / before);
        }

        private static long pull(int x) {
            return (long) x * rootOf(10000 * x);
        }

        /** The greatest whole number the square of which is no more than 0 .. 1000000. */
        private static int rootOf(int square) {
            int root = 0;
            while (root < 1000 && (root + 1) * (root + 1) <= square) {
                root++;
            }
            return root;
        }
    }
}
