/** Promises 25 and 26: counts and the digest. */
public final class StateTest {
    private static final Checks CHECKS = new Checks("StateTest");

    public static void main(String[] args) {
        count();
        countLostReadings();
        digestOfNew();
        digestInOrder();
        digestForgetsWhatIsGone();
        objectsStandApart();
        CHECKS.finish();
    }

    private static void due(String call, long got, long want) {
        CHECKS.due(call, got, want);
    }

    private static long mixed(long h, long... values) {
        long mix = h;
        for (long v : values) {
            mix = 31 * mix + v;
        }
        return mix;
    }

    private static long zeros(long h, int many) {
        return mixed(h, new long[many]);
    }

    private static void count() {
        NightWater x = new NightWater();
        x.zone(1, 1);
        x.zone(1, 1);
        x.zone(1, 1);
        x.valve(0, 1);
        x.valve(1, 2);
        x.section(5, 0, 1);
        x.dig(1, 1);
        x.sample(0, 0, NightWater.NOT);
        x.sample(0, 63, NightWater.NOT);
        x.sample(1, 63, NightWater.NOT);
        x.sample(1, 0, NightWater.NOT);
        x.sample(1, 0, NightWater.NOT);
        x.read(1, 0, true, -1);
        x.read(2, 23, false, -1);
        x.read(2, 23, true, -1);
        x.read(2, 12, true, -1);
        x.read(0, 12, true, -1);
        x.read(0, 12, true, -1);
        int[] want = {3, 2, 5, 1, 5, 4};
        for (int what = 0; what < want.length; what++) {
            due("count " + what, x.count(what), want[what]);
        }
        CHECKS.refused(x, "count -1", () -> x.count(-1), -2);
        CHECKS.refused(x, "count 6", () -> x.count(6), -2);
        CHECKS.refused(x, "count least", () -> x.count(Integer.MIN_VALUE), -2);
    }

    private static void countLostReadings() {
        NightWater x = new NightWater();
        x.zone(1, 1);
        for (int hour = 0; hour < 24; hour++) {
            x.read(0, hour, true, -1);
            x.read(0, hour, false, -1);
        }
        due("all are LOST", x.count(4), 48);
        x.zone(1, 1);
        due("none of those that come", x.count(4), 48);
    }

    private static void digestOfNew() {
        // counts, 128 samples, the one section's weight
        long want = zeros(mixed(197, 0, 0, 1, 0, 0, 0), 129);
        due("new digest", new NightWater().digest(), want);
    }

    private static void digestInOrder() {
        NightWater x = new NightWater();
        x.zone(10, 4);
        x.zone(20, 6);
        x.read(0, 0, true, 100);
        x.read(0, 0, false, 50);
        x.read(0, 23, true, 23);
        for (int hour = 1; hour <= 4; hour++) {
            x.read(1, hour, false, -1);
        }
        x.valve(1, 0);
        x.valve(0, 1);
        x.sample(0, 0, 11);
        x.sample(0, 63, 12);
        x.sample(1, 0, 13);
        x.sample(1, 63, NightWater.NOT);
        x.section(3, 0, 7);
        x.section(3, 2, 9);
        x.dig(1, 5);
        x.dig(8, 2);

        long h = mixed(197, 2, 2, 3, 2, 4, 1);
        h = mixed(h, -4 - 20, -4, 100, 50);
        h = mixed(zeros(h, 44), 23, 0);
        h = mixed(h, NightWater.NOT, NightWater.NOT, 0, 0);
        h = mixed(h, 0, -1, 0, -1, 0, -1, 0, -1);
        h = zeros(h, 38);
        h = mixed(h, 1, 0, 0, 1);
        h = mixed(zeros(mixed(h, 11), 62), 12);
        h = mixed(zeros(mixed(h, 13), 62), NightWater.NOT);
        h = mixed(h, 7, 0, 9);
        h = mixed(h, 1, 5, 8, 2);
        due("digest", x.digest(), h);
        due("digest changes nothing", x.digest(), h);
    }

    private static void digestForgetsWhatIsGone() {
        NightWater x = new NightWater();
        long before = x.digest();
        x.dig(3, 4);
        x.section(12, 11, 1000);
        x.sample(0, 5, NightWater.NOT);
        x.rules(100, 10);
        CHECKS.holds("digest differs", x.digest() != before);
        x.clear();
        x.section(1, 0, 0);
        x.sample(0, 5, 0);
        due("as before, rules do not stand in it", x.digest(), before);
    }

    private static void objectsStandApart() {
        NightWater x = new NightWater();
        NightWater y = new NightWater();
        x.zone(1, 1);
        x.dig(1, 1);
        x.sample(0, 0, 5);
        x.section(4, 1, 3);
        due("the other is new", y.digest(), new NightWater().digest());
    }
}
