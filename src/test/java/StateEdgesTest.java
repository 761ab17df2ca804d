import java.math.BigInteger;
import java.util.ArrayList;
import java.util.List;

/** Promises 25 and 26, and what holds for an object as a whole: boundary cases, one by one. */
public final class StateEdgesTest {
    private static final int BAD = NightWater.BAD;
    private static final int NONE = NightWater.NONE;
    private static final int NOT = NightWater.NOT;
    private static final Checks CHECKS = new Checks("StateEdgesTest");

    public static void main(String[] args) {
        countsOfANewObject();
        countsOfAFullObject();
        countOfAllReadingsLost();
        countOfAllSamplesLost();
        countGoesFrom0To5();
        lostIsCountedOnce();
        digestOfANewObject();
        digestOfAFullObject();
        digestOfAllLost();
        digestHoldsEachValueAtItsPlace();
        digestIsWithoutWhatIsNone();
        digestSeesRulesByLeaks();
        askingChangesNothing();
        answers512Calls();
        answers512OfTheDearest();
        CHECKS.finish();
    }

    private static void due(String call, long got, long want) {
        CHECKS.due(call, got, want);
    }

    private static void counts(String what, NightWater x, int... want) {
        for (int i = 0; i < want.length; i++) {
            due("P25 " + what + ", " + i, x.count(i), want[i]);
        }
    }

    /** Promise 26's sum without an end, cut to what a long holds of it. */
    private static long digestOf(List<Integer> values) {
        BigInteger h = BigInteger.valueOf(197);
        for (int v : values) {
            h = h.multiply(BigInteger.valueOf(31)).add(BigInteger.valueOf(v));
        }
        return h.longValue();
    }

    private static void add(List<Integer> values, int times, int... those) {
        for (int i = 0; i < times; i++) {
            for (int v : those) {
                values.add(v);
            }
        }
    }

    /** Promise 25, nothing there yet; promise 17: "one .. at first". */
    private static void countsOfANewObject() {
        counts("new", new NightWater(), 0, 0, 1, 0, 0, 0);
    }

    /** Promise 25, where no more goes in. */
    private static void countsOfAFullObject() {
        NightWater x = new NightWater();
        for (int zone = 0; zone < 9; zone++) {
            x.zone(0, 0);
        }
        for (int valve = 0; valve < 13; valve++) {
            x.valve(0, 1);
        }
        x.section(12, 0, 0);
        x.section(13, 0, 0);
        for (int dig = 0; dig < 9; dig++) {
            x.dig(0, 1);
        }
        counts("full", x, 8, 12, 12, 8, 0, 0);
    }

    /** Promise 25: "4 readings LOST", all there may be. */
    private static void countOfAllReadingsLost() {
        NightWater x = new NightWater();
        for (int zone = 0; zone < 8; zone++) {
            x.zone(0, 0);
            for (int hour = 0; hour < 24; hour++) {
                x.read(zone, hour, true, NONE);
                x.read(zone, hour, false, NONE);
            }
            due("P25 of " + zone, x.count(4), 48 * (zone + 1));
        }
        due("P4 the last is found", x.read(7, 23, false, 0), NONE);
        due("P25 all but one", x.count(4), 383);
    }

    /** Promise 25: "5 samples LOST", all there may be. */
    private static void countOfAllSamplesLost() {
        NightWater x = new NightWater();
        for (int i = 0; i < 64; i++) {
            x.sample(0, i, NOT);
            x.sample(1, 63 - i, NOT);
            due("P25 so many", x.count(5), 2 * (i + 1));
        }
        x.sample(1, 63, 0);
        due("P25 all but one", x.count(5), 127);
    }

    /** Promise 25: "0 ZONES .. 5 samples LOST. BAD." */
    private static void countGoesFrom0To5() {
        NightWater x = new NightWater();
        CHECKS.refused(x, "P25 -1", () -> x.count(-1), BAD);
        CHECKS.refused(x, "P25 6", () -> x.count(6), BAD);
        CHECKS.refused(x, "P25 least", () -> x.count(Integer.MIN_VALUE), BAD);
        CHECKS.refused(x, "P25 greatest", () -> x.count(Integer.MAX_VALUE), BAD);
        due("P25 0", x.count(0), 0);
        due("P25 5", x.count(5), 0);
    }

    /** Promise 25: how many are LOST, not how often. */
    private static void lostIsCountedOnce() {
        NightWater x = new NightWater();
        x.zone(0, 0);
        for (int again = 0; again < 3; again++) {
            x.read(0, 0, true, NONE);
            x.sample(0, 0, NOT);
            x.echo(1, 5, 0, 1);
        }
        counts("once each", x, 1, 0, 1, 0, 1, 2);
    }

    /** Promise 26, of a new object: six counts, 128 samples, one WEIGHT. */
    private static void digestOfANewObject() {
        List<Integer> values = new ArrayList<>(List.of(0, 0, 1, 0, 0, 0));
        add(values, 129, 0);
        due("P26 new", new NightWater().digest(), digestOf(values));
    }

    /** Promise 26, of a full object with all numbers at their greatest: h goes round many times. */
    private static void digestOfAFullObject() {
        NightWater x = new NightWater();
        x.rules(0, 20);
        List<Integer> values = new ArrayList<>(List.of(8, 12, 12, 8, 0, 0));
        for (int zone = 0; zone < 8; zone++) {
            x.zone(5000, 5000);
            for (int hour = 0; hour < 24; hour++) {
                x.read(zone, hour, true, 20000);
                x.read(zone, hour, false, 19999);
            }
            add(values, 1, 1 - 105000, 1 - 5000);
            add(values, 24, 20000, 19999);
        }
        for (int valve = 0; valve < 12; valve++) {
            x.valve(7, 6);
            add(values, 1, 7, 6);
        }
        x.sample(0, 0, 1000);
        x.sample(1, 63, -1000);
        add(values, 1, 1000);
        add(values, 126, 0);
        add(values, 1, -1000);
        for (int i = 0; i < 12; i++) {
            x.section(12, i, 1000);
            add(values, 1, 1000);
        }
        for (int dig = 0; dig < 8; dig++) {
            x.dig(1000, 100);
            add(values, 1, 1000, 100);
        }
        due("P26 full", x.digest(), digestOf(values));
    }

    /** Promise 26: "(NONE: LOST)", "(NOT: LOST)", and leaks(..) of a ZONE without a LOW. */
    private static void digestOfAllLost() {
        NightWater x = new NightWater();
        x.zone(5, 5);
        List<Integer> values = new ArrayList<>(List.of(1, 0, 1, 0, 48, 128, NOT, NOT));
        for (int hour = 0; hour < 24; hour++) {
            x.read(0, hour, true, NONE);
            x.read(0, hour, false, NONE);
            add(values, 1, NONE, NONE);
        }
        for (int i = 0; i < 64; i++) {
            x.sample(0, i, NOT);
        }
        x.echo(1, 0, 0, 64);
        add(values, 128, NOT);
        add(values, 1, 0);
        due("P26 all LOST", x.digest(), digestOf(values));
    }

    /** Promise 26: "then h = 31 h + v for each v", in the order told. */
    private static void digestHoldsEachValueAtItsPlace() {
        NightWater x = new NightWater();
        x.rules(0, 1);
        List<Integer> values = new ArrayList<>(List.of(2, 2, 3, 2, 1, 1));
        for (int zone = 0; zone < 2; zone++) {
            x.zone(3 + zone, 10 + zone);
            for (int hour = 0; hour < 24; hour++) {
                x.read(zone, hour, true, 100 * zone + hour);
                x.read(zone, hour, false, 50 * zone);
            }
        }
        x.read(0, 23, false, NONE);
        // THE LOW is hour 1: 1 less 0, 101 less 50
        add(values, 1, 1 - 10 - 3, 1 - 10);
        for (int hour = 0; hour < 24; hour++) {
            add(values, 1, hour, hour == 23 ? NONE : 0);
        }
        add(values, 1, 51 - 11 - 4, 51 - 11);
        for (int hour = 0; hour < 24; hour++) {
            add(values, 1, 100 + hour, 50);
        }
        x.valve(1, 0);
        x.valve(0, 1);
        add(values, 1, 1, 0, 0, 1);
        for (int i = 0; i < 64; i++) {
            x.sample(0, i, 10 + i);
            x.sample(1, i, i == 7 ? NOT : -10 - i);
        }
        for (int i = 0; i < 64; i++) {
            add(values, 1, 10 + i);
        }
        for (int i = 0; i < 64; i++) {
            add(values, 1, i == 7 ? NOT : -10 - i);
        }
        for (int i = 0; i < 3; i++) {
            x.section(3, i, 5 * i);
            add(values, 1, 5 * i);
        }
        x.dig(1, 2);
        x.dig(9, 3);
        add(values, 1, 1, 2, 9, 3);
        due("P26 each at its place", x.digest(), digestOf(values));
    }

    /** Promise 26: SECTIONS and DIGS that are none any more do not stand in it. */
    private static void digestIsWithoutWhatIsNone() {
        NightWater x = new NightWater();
        long before = x.digest();
        x.section(12, 11, 1000);
        x.dig(1000, 100);
        CHECKS.holds("P26 it tells them", x.digest() != before);
        x.section(1, 0, 0);
        x.clear();
        due("P26 it has forgotten them", x.digest(), before);
    }

    /** Promise 26 tells no rules but by leaks(..): without ZONES they do not stand in it. */
    private static void digestSeesRulesByLeaks() {
        NightWater x = new NightWater();
        long before = x.digest();
        x.rules(200, 20);
        due("P26 no ZONES", x.digest(), before);
        x.zone(1, 0);
        long now = x.digest();
        x.rules(200, 19);
        CHECKS.holds("P26 by the least of its LEAKS", x.digest() != now);
    }

    /** What only answers changes nothing, in all towns. */
    private static void askingChangesNothing() {
        for (Town town : new Town[] {Town.NEW, Town.SOME, Town.FULL, Town.SILENT}) {
            NightWater x = town.built();
            long before = Town.all(x);
            x.fewest();
            x.digest();
            x.pulled(5, 1, 100);
            due("all of " + town.name() + ", asked twice", Town.all(x), before);
        }
    }

    /** What it is: "An object is used for at most 512 calls": the last of them answers as the first. */
    private static void answers512Calls() {
        NightWater x = new NightWater();
        due("call 1", x.zone(0, 0), 0);
        for (int call = 2; call < 512; call++) {
            due("call " + call, x.read(0, 3, true, call), call == 2 ? 0 : call - 1);
        }
        due("call 512", x.read(0, 3, true, NONE), 511);
        NightWater y = new NightWater();
        for (int call = 1; call <= 256; call++) {
            due("DIG of call " + call, y.dig(call, 1), 0);
            due("clear after it", y.clear(), 1);
        }
    }

    /** What it is: "at most 512 calls", each of those that reckon the most. */
    private static void answers512OfTheDearest() {
        NightWater x = Town.FULL.built();
        int fewest = x.fewest();
        for (int call = 0; call < 100; call++) {
            due("fewest again", x.fewest(), fewest);
            due("delay again", x.delay(true), x.delay(true));
            due("section again", x.section(12, 11, call), call == 0 ? 3 + 121 % 7 : call - 1);
        }
    }
}
