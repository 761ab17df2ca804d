import java.math.BigInteger;
import java.util.ArrayList;
import java.util.Comparator;
import java.util.List;

/**
 * The document's words taken one by one, without regard to what it costs: every set, every order
 * and every plan is looked at. It takes only calls whose numbers are as told.
 */
final class Model {
    static final int NONE = -1;
    static final int NOT = -2000000000;

    private final List<int[]> zones = new ArrayList<>();
    private final List<Integer[][]> readings = new ArrayList<>();
    private final List<int[]> valves = new ArrayList<>();
    private final List<int[]> digs = new ArrayList<>();
    private final Integer[][] samples = new Integer[2][64];
    private List<Integer> weights = new ArrayList<>(List.of(0));
    private int e = 20;
    private int u = 2;

    Model() {
        for (Integer[] row : samples) {
            java.util.Arrays.fill(row, 0);
        }
    }

    // ---- zones

    int zone(int customers, int big) {
        if (zones.size() == 8) {
            return -4;
        }
        zones.add(new int[] {customers, big});
        Integer[][] hours = new Integer[24][2];
        for (Integer[] hour : hours) {
            java.util.Arrays.fill(hour, 0);
        }
        readings.add(hours);
        return zones.size() - 1;
    }

    void rules(int newE, int newU) {
        e = newE;
        u = newU;
    }

    int read(int zone, int hour, boolean in, int v) {
        Integer[] cell = readings.get(zone)[hour];
        Integer was = cell[in ? 0 : 1];
        cell[in ? 0 : 1] = v == NONE ? null : (Integer) v;
        return was == null ? NONE : was;
    }

    /** Least, greatest, hour; null without one. */
    int[] low(int zone) {
        List<int[]> told = new ArrayList<>();
        for (int hour = 1; hour <= 4; hour++) {
            Integer[] cell = readings.get(zone)[hour];
            if (cell[0] != null && cell[1] != null) {
                int least = floor(cell[0], 1000 - e) - ceil(cell[1], 1000 + e);
                int greatest = ceil(cell[0], 1000 + e) - floor(cell[1], 1000 - e);
                told.add(new int[] {least, greatest, hour});
            }
        }
        // the sort is stable: of like ones the first hour stays first
        told.sort(Comparator.comparingInt(net -> net[1]));
        return told.isEmpty() ? null : told.get(0);
    }

    private static int floor(int v, int thousandths) {
        return (int) Math.floorDiv((long) v * thousandths, 1000L);
    }

    private static int ceil(int v, int thousandths) {
        return (int) -Math.floorDiv(-(long) v * thousandths, 1000L);
    }

    int[] leaks(int zone) {
        int[] low = low(zone);
        if (low == null) {
            return null;
        }
        int[] told = zones.get(zone);
        return new int[] {low[0] - told[1] - told[0] * u, low[1] - told[1]};
    }

    int valve(int a, int b) {
        if (valves.size() == 12) {
            return -4;
        }
        valves.add(new int[] {a, b});
        return valves.size() - 1;
    }

    /** The zones that can be reached from a zone by the valves of a set. */
    private boolean[] reached(int zone, int set) {
        boolean[] reached = new boolean[zones.size()];
        reached[zone] = true;
        for (int round = 0; round < 8; round++) {
            for (int v = 0; v < valves.size(); v++) {
                int[] ends = valves.get(v);
                if ((set & 1 << v) != 0 && (reached[ends[0]] || reached[ends[1]])) {
                    reached[ends[0]] = true;
                    reached[ends[1]] = true;
                }
            }
        }
        return reached;
    }

    int group(int zone, int set) {
        boolean[] reached = reached(zone, set);
        int least = 0;
        while (!reached[least]) {
            least++;
        }
        return least;
    }

    int explains(int set) {
        for (int zone = 0; zone < zones.size(); zone++) {
            boolean[] reached = reached(zone, set);
            boolean all = true;
            int sum = 0;
            for (int other = 0; other < zones.size(); other++) {
                if (reached[other]) {
                    int[] leaks = leaks(other);
                    all &= leaks != null;
                    sum += leaks == null ? 0 : leaks[1];
                }
            }
            if (all && sum < 0) {
                return 0;
            }
        }
        return 1;
    }

    int fewest() {
        for (int many = 0; many <= valves.size(); many++) {
            for (int set = 0; set < 1 << valves.size(); set++) {
                if (Integer.bitCount(set) == many && explains(set) == 1) {
                    return set;
                }
            }
        }
        return NONE;
    }

    // ---- listeners

    void sample(int listener, int i, int v) {
        samples[listener][i] = v == NOT ? null : (Integer) v;
    }

    void echo(int listener, int i, int j, int n) {
        System.arraycopy(samples[1 - listener], j, samples[listener], i, n);
    }

    int[] sum(int d) {
        int sum = 0;
        int count = 0;
        for (int i = Math.max(0, -d); i < Math.min(64, 64 - d); i++) {
            if (samples[0][i] != null && samples[1][i + d] != null) {
                sum += samples[0][i] * samples[1][i + d];
                count++;
            }
        }
        return new int[] {sum, count};
    }

    int delay(boolean second) {
        List<int[]> told = new ArrayList<>();
        for (int d = -16; d <= 16; d++) {
            int[] sum = sum(d);
            if (sum[1] > 0) {
                told.add(new int[] {d, sum[0], sum[1]});
            }
        }
        Comparator<int[]> byMean = (x, y) -> times(y[1], x[2]).compareTo(times(x[1], y[2]));
        told.sort(byMean.thenComparingInt(x -> Math.abs(x[0])).thenComparingInt(x -> x[0]));
        if (told.isEmpty()) {
            return -101;
        }
        int first = told.get(0)[0];
        if (!second) {
            return first;
        }
        told.removeIf(x -> x[0] >= first - 1 && x[0] <= first + 1);
        return told.isEmpty() ? -101 : told.get(0)[0];
    }

    private static BigInteger times(int a, int b) {
        return BigInteger.valueOf(a).multiply(BigInteger.valueOf(b));
    }

    int place(int length, int s, int t, int what) {
        int d = delay(false);
        if (d == -101) {
            return -3;
        }
        int least = 2 * length;
        int greatest = 0;
        for (int speed : new int[] {s, t}) {
            int twice = Math.min(Math.max(length - d * speed, 0), 2 * length);
            least = Math.min(least, twice);
            greatest = Math.max(greatest, twice);
        }
        return what == 0 ? least : greatest;
    }

    // ---- steps, digs, pressure

    int section(int n, int i, int weight) {
        List<Integer> next = new ArrayList<>();
        for (int k = 0; k < n; k++) {
            next.add(k < weights.size() ? weights.get(k) : 0);
        }
        weights = next;
        return weights.set(i, weight);
    }

    int sections() {
        return weights.size();
    }

    private int weight(int a, int b) {
        int sum = 0;
        for (int i = a; i <= b; i++) {
            sum += weights.get(i);
        }
        return sum;
    }

    private final int[][] known = new int[12][12];

    /** Every plan of a line is looked at; what parts cost is kept but for one line. */
    int cost(int a, int b) {
        for (int[] row : known) {
            java.util.Arrays.fill(row, -1);
        }
        return costOf(a, b);
    }

    private int costOf(int a, int b) {
        if (a == b) {
            return 0;
        }
        if (known[a][b] < 0) {
            int least = Integer.MAX_VALUE;
            for (int k = b; k > a; k--) {
                least = Math.min(least, costOf(a, k - 1) + costOf(k, b));
            }
            known[a][b] = least + weight(a, b);
        }
        return known[a][b];
    }

    int closes(int a, int b) {
        int cost = cost(a, b);
        for (int k = a + 1; k <= b; k++) {
            if (cost(a, k - 1) + cost(k, b) + weight(a, b) == cost) {
                return k;
            }
        }
        return NONE;
    }

    int closings(int i) {
        return closings(0, weights.size() - 1, i);
    }

    private int closings(int a, int b, int i) {
        int k = closes(a, b);
        if (k == NONE) {
            return 0;
        }
        return 1 + (i < k ? closings(a, k - 1, i) : closings(k, b, i));
    }

    int dig(int loses, int hours) {
        if (digs.size() == 8) {
            return -4;
        }
        digs.add(new int[] {loses, hours});
        return digs.size() - 1;
    }

    int clear() {
        int were = digs.size();
        digs.clear();
        return were;
    }

    private int leastLost;
    private List<Integer> leastOrder;

    int lost() {
        findOrder();
        return leastLost;
    }

    int order(int i) {
        findOrder();
        return i < leastOrder.size() ? leastOrder.get(i) : NONE;
    }

    private void findOrder() {
        leastLost = Integer.MAX_VALUE;
        tryOrders(new ArrayList<>(), 0, 0);
    }

    /** Orders are tried as the words of a dictionary come: of like ones the first stays. */
    private void tryOrders(List<Integer> begun, int time, int lost) {
        if (begun.size() == digs.size() && lost < leastLost) {
            leastLost = lost;
            leastOrder = new ArrayList<>(begun);
        }
        for (int dig = 0; dig < digs.size(); dig++) {
            if (!begun.contains(dig)) {
                int done = time + digs.get(dig)[1];
                begun.add(dig);
                tryOrders(begun, done, lost + digs.get(dig)[0] * done);
                begun.remove(begun.size() - 1);
            }
        }
    }

    int pulled(int v, int p, int q) {
        return BigInteger.valueOf(v).multiply(pull(q)).divide(pull(p)).intValueExact();
    }

    private static BigInteger pull(int x) {
        return BigInteger.valueOf(10000L * x).sqrt().multiply(BigInteger.valueOf(x));
    }

    int count(int what) {
        int[] counts = {zones.size(), valves.size(), weights.size(), digs.size(), 0, 0};
        for (Integer[][] hours : readings) {
            for (Integer[] hour : hours) {
                counts[4] += (hour[0] == null ? 1 : 0) + (hour[1] == null ? 1 : 0);
            }
        }
        for (Integer[] row : samples) {
            for (Integer sample : row) {
                counts[5] += sample == null ? 1 : 0;
            }
        }
        return counts[what];
    }

    long digest() {
        List<Integer> all = new ArrayList<>();
        for (int what = 0; what <= 5; what++) {
            all.add(count(what));
        }
        for (int zone = 0; zone < zones.size(); zone++) {
            int[] leaks = leaks(zone);
            all.add(leaks == null ? NOT : leaks[0]);
            all.add(leaks == null ? NOT : leaks[1]);
            for (Integer[] hour : readings.get(zone)) {
                all.add(hour[0] == null ? NONE : hour[0]);
                all.add(hour[1] == null ? NONE : hour[1]);
            }
        }
        for (int[] valve : valves) {
            all.add(valve[0]);
            all.add(valve[1]);
        }
        for (Integer[] row : samples) {
            for (Integer sample : row) {
                all.add(sample == null ? NOT : sample);
            }
        }
        all.addAll(weights);
        for (int[] dig : digs) {
            all.add(dig[0]);
            all.add(dig[1]);
        }
        long h = 197;
        for (int v : all) {
            h = 31 * h + v;
        }
        return h;
    }
}
