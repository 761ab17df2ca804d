import java.util.ArrayList;
import java.util.Arrays;
import java.util.List;

/**
 * Every number of every call, in towns of several sizes: the last value that is taken and the first
 * that is refused, on both sides, and what is far beyond; what a refused call answers, that several
 * wrong numbers answer the same, which refusal comes first, and that nothing is changed.
 *
 * It holds what stands in brackets behind the words of 'Terms' ("0 .. 5000", "1 .. 64", "beyond 63,
 * too" and their like), and "Refused, changing nothing, the first of: BAD, NO, FULL".
 */
public final class RangesTest {
    private static final int BAD = NightWater.BAD;
    private static final int NO = NightWater.NO;
    private static final int FULL = NightWater.FULL;
    private static final int NOT = NightWater.NOT;
    private static final Checks CHECKS = new Checks("RangesTest");

    private interface Call {
        int made(NightWater x, int[] numbers);
    }

    /**
     * A call, what it answers to wrong numbers, its numbers' ranges, and good numbers beside which
     * each one may go through the whole of its range.
     */
    private record Row(String name, int refusal, Call call, int[][] ranges, int[] good) {
        String with(int[] numbers) {
            return name + Arrays.toString(numbers);
        }
    }

    public static void main(String[] args) {
        for (Town town : new Town[] {Town.NEW, Town.SOME, Town.FULL, Town.SILENT}) {
            for (Row row : rowsOf(town)) {
                takenAtBothEnds(town, row);
                refusedBeyondBothEnds(town, row);
            }
        }
        fullComesWhenNumbersAreGood();
        noComesWhenNumbersAreGood();
        lostIsANumberOfItsOwn();
        CHECKS.finish();
    }

    private static List<Row> rowsOf(Town town) {
        List<Row> rows = new ArrayList<>();
        addZoneRows(rows, range(0, town.zones() - 1), range(0, (1 << town.valves()) - 1));
        addListenerRows(rows);
        addStepRows(rows, town.sections() - 1, range(0, town.digs() - 1));
        return rows;
    }

    private static void addZoneRows(List<Row> rows, int[] zone, int[] set) {
        int[] hour = range(0, 23);
        int[] reading = range(NightWater.NONE, 20000);
        rows.add(row("promise 2: zone", BAD, (x, n) -> x.zone(n[0], n[1]), good(7, 7),
                range(0, 5000), range(0, 5000)));
        rows.add(row("promise 3: rules", BAD, (x, n) -> x.rules(n[0], n[1]), good(7, 7),
                range(0, 200), range(0, 20)));
        rows.add(row("promise 4: read in", BAD, (x, n) -> x.read(n[0], n[1], true, n[2]),
                good(0, 3, 9), zone, hour, reading));
        rows.add(row("promise 4: read out", BAD, (x, n) -> x.read(n[0], n[1], false, n[2]),
                good(0, 3, 9), zone, hour, reading));
        rows.add(row("promise 5: low", NOT, (x, n) -> x.low(n[0], n[1]), good(0, 1),
                zone, range(0, 2)));
        rows.add(row("promise 6: leaks", NOT, (x, n) -> x.leaks(n[0], n[1]), good(0, 1),
                zone, range(0, 1)));
        rows.add(row("promise 7: valve", BAD, (x, n) -> x.valve(n[0], n[1]), good(1, 1),
                zone, zone));
        rows.add(row("promise 8: group", BAD, (x, n) -> x.group(n[0], n[1]), good(0, 0),
                zone, set));
        rows.add(row("promise 9: explains", BAD, (x, n) -> x.explains(n[0]), good(0), set));
    }

    private static void addListenerRows(List<Row> rows) {
        int[] listener = range(0, 1);
        int[] place = range(0, 63);
        int[] speed = range(1, 2000);
        rows.add(row("promise 11: sample", BAD, (x, n) -> x.sample(n[0], n[1], n[2]),
                good(0, 5, 7), listener, place, range(-1000, 1000)));
        rows.add(row("promise 12: echo", BAD, (x, n) -> x.echo(n[0], n[1], n[2], n[3]),
                good(1, 0, 0, 1), listener, place, place, range(1, 64)));
        rows.add(row("promise 13: sum", NOT, (x, n) -> x.sum(n[0], n[1]), good(4, 0),
                range(-16, 16), range(0, 1)));
        rows.add(row("promise 15: place", BAD, (x, n) -> x.place(n[0], n[1], n[2], n[3]),
                good(100, 1, 2000, 0), range(1, 100000), speed, speed, range(0, 1)));
    }

    private static void addStepRows(List<Row> rows, int last, int[] dig) {
        rows.add(row("promise 16: section", BAD, (x, n) -> x.section(n[0], n[1], n[2]),
                good(12, 0, 5), range(1, 12), range(0, 11), range(0, 1000)));
        rows.add(row("promise 17: cost", BAD, (x, n) -> x.cost(n[0], n[1]), good(0, last),
                range(0, last), range(0, last)));
        rows.add(row("promise 18: closes", BAD, (x, n) -> x.closes(n[0], n[1]), good(0, last),
                range(0, last), range(0, last)));
        rows.add(row("promise 19: closings", BAD, (x, n) -> x.closings(n[0]), good(0),
                range(0, last)));
        rows.add(row("promise 20: dig", BAD, (x, n) -> x.dig(n[0], n[1]), good(7, 7),
                range(0, 1000), range(1, 100)));
        rows.add(row("promise 23: order", NightWater.NONE, (x, n) -> x.order(n[0]), good(0), dig));
        rows.add(row("promise 24: pulled", BAD, (x, n) -> x.pulled(n[0], n[1], n[2]),
                good(7, 7, 7), range(0, 100000), range(1, 100), range(1, 100)));
        rows.add(row("promise 25: count", BAD, (x, n) -> x.count(n[0]), good(0), range(0, 5)));
    }

    private static Row row(String name, int refusal, Call call, int[] good, int[]... ranges) {
        return new Row(name, refusal, call, ranges, good);
    }

    private static int[] range(int least, int greatest) {
        return new int[] {least, greatest};
    }

    private static int[] good(int... numbers) {
        return numbers;
    }

    /** The least and the greatest value of each number, the others being good. */
    private static void takenAtBothEnds(Town town, Row row) {
        for (int k = 0; k < row.ranges.length; k++) {
            for (int end : row.ranges[k]) {
                int[] numbers = row.good.clone();
                numbers[k] = end;
                if (allInRange(row, numbers)) {
                    int answer = row.call.made(town.built(), numbers);
                    CHECKS.holds(town.name() + ", taken: " + row.with(numbers),
                            answer != row.refusal);
                }
            }
        }
    }

    private static boolean allInRange(Row row, int[] numbers) {
        boolean all = true;
        for (int k = 0; k < numbers.length; k++) {
            all &= row.ranges[k][0] <= numbers[k] && numbers[k] <= row.ranges[k][1];
        }
        return all;
    }

    /** One number wrong, whatever stands beside it. */
    private static void refusedBeyondBothEnds(Town town, Row row) {
        for (int k = 0; k < row.ranges.length; k++) {
            for (int wrong : wrongValues(row, k)) {
                int[] numbers = row.good.clone();
                numbers[k] = wrong;
                refusedWithAllOthers(town, row, numbers, k, 0);
            }
        }
    }

    private static List<Integer> wrongValues(Row row, int k) {
        int least = row.ranges[k][0];
        int greatest = row.ranges[k][1];
        List<Integer> wrong = new ArrayList<>(List.of(least - 1, greatest + 1));
        for (int far : new int[] {Integer.MIN_VALUE, Integer.MAX_VALUE, NOT}) {
            boolean isLostSample = far == NOT && row.name.endsWith("sample") && k == 2;
            if (!isLostSample) {
                wrong.add(far);
            }
        }
        return wrong;
    }

    /** The numbers from at on, but for k, each at its ends, just below, and as they stand. */
    private static void refusedWithAllOthers(Town town, Row row, int[] numbers, int k, int at) {
        if (at == numbers.length) {
            refused(town, row, numbers);
            return;
        }
        int[] others = {row.good[at], row.ranges[at][0], row.ranges[at][1], row.ranges[at][0] - 1};
        for (int other : at == k ? new int[] {numbers[k]} : others) {
            numbers[at] = other;
            refusedWithAllOthers(town, row, numbers, k, at + 1);
        }
    }

    private static void refused(Town town, Row row, int[] numbers) {
        NightWater x = town.built();
        long before = Town.all(x);
        CHECKS.due(town.name() + ": " + row.with(numbers), row.call.made(x, numbers), row.refusal);
        CHECKS.due(town.name() + ", all after " + row.with(numbers), Town.all(x), before);
    }

    private static void answersAndChangesNothing(Town town, String name, Call call, int want) {
        NightWater x = town.built();
        long before = Town.all(x);
        CHECKS.due(town.name() + ": " + name, call.made(x, new int[0]), want);
        CHECKS.due(town.name() + ", all after " + name, Town.all(x), before);
    }

    /** Terms, "the first of: BAD .. FULL -4": wrong numbers answered BAD above, in a full town, too. */
    private static void fullComesWhenNumbersAreGood() {
        Town full = Town.FULL;
        answersAndChangesNothing(full, "promise 2: zone", (x, n) -> x.zone(5000, 0), FULL);
        answersAndChangesNothing(full, "promise 7: valve", (x, n) -> x.valve(7, 0), FULL);
        answersAndChangesNothing(full, "promise 7: with itself", (x, n) -> x.valve(7, 7), BAD);
        answersAndChangesNothing(full, "promise 20: dig", (x, n) -> x.dig(1000, 1), FULL);
    }

    /** Terms, "the first of: BAD .. NO -3": wrong numbers answered BAD above, without a delay, too. */
    private static void noComesWhenNumbersAreGood() {
        for (int what = 0; what <= 1; what++) {
            int asked = what;
            answersAndChangesNothing(Town.SILENT, "promise 15: place " + what,
                    (x, n) -> x.place(100000, 1, 2000, asked), NO);
        }
    }

    /** Promise 11, "or LOST (NOT)": NOT is taken, and just that, for a sample that there is. */
    private static void lostIsANumberOfItsOwn() {
        Town some = Town.SOME;
        CHECKS.due("promise 11: LOST", some.built().sample(0, 63, NOT), 1);
        answersAndChangesNothing(some, "promise 11: NOT - 1", (x, n) -> x.sample(0, 5, NOT - 1), BAD);
        answersAndChangesNothing(some, "promise 11: NOT + 1", (x, n) -> x.sample(0, 5, NOT + 1), BAD);
        answersAndChangesNothing(some, "promise 11: NOT at 64", (x, n) -> x.sample(0, 64, NOT), BAD);
        answersAndChangesNothing(some, "promise 11: NOT of 2", (x, n) -> x.sample(2, 0, NOT), BAD);
        answersAndChangesNothing(some, "promise 4: LOST by NOT", (x, n) -> x.read(0, 1, true, NOT), BAD);
    }
}
