/** Towns to begin with, and all that a town can be asked, to see that a refused call changed nothing. */
record Town(String name, int zones, int valves, int sections, int digs, boolean heard) {
    static final Town NEW = new Town("a new object", 0, 0, 1, 0, true);
    static final Town SOME = new Town("a town with room", 3, 2, 5, 3, true);
    static final Town FULL = new Town("a full town", 8, 12, 12, 8, true);
    static final Town SILENT = new Town("a town without a delay", 3, 2, 5, 3, false);

    /** At most 100 calls, so that the object may be asked all twice within its 512 calls. */
    NightWater built() {
        NightWater x = new NightWater();
        if (this == NEW) {
            return x;
        }
        x.rules(30, 3);
        for (int zone = 0; zone < zones; zone++) {
            x.zone(10 + zone, 7 * zone);
            for (int hour = 1; hour <= 4; hour++) {
                x.read(zone, hour, true, 12000 + 1000 * zone - 100 * hour);
            }
        }
        x.read(0, 3, false, 20000);
        x.read(zones - 1, 1, true, NightWater.NONE);
        for (int valve = 0; valve < valves; valve++) {
            x.valve(valve % zones, (valve + 1) % zones);
        }
        addSamples(x);
        for (int i = 0; i < sections; i++) {
            x.section(sections, i, 3 + i * i % 7);
        }
        for (int dig = 0; dig < digs; dig++) {
            x.dig(10 + dig * 5 % 7, 1 + dig % 3);
        }
        return x;
    }

    private void addSamples(NightWater x) {
        x.sample(0, 20, 500);
        x.sample(0, 21, -30);
        x.sample(0, 63, NightWater.NOT);
        x.sample(1, 24, 600);
        x.sample(1, 0, NightWater.NOT);
        for (int i = 0; i < 64 && !heard; i++) {
            x.sample(0, i, NightWater.NOT);
        }
    }

    /** What can be asked of an object, mixed to one number; at most 160 calls. */
    static long all(NightWater x) {
        long h = x.digest();
        int valves = (1 << x.count(1)) - 1;
        for (int zone = 0; zone < x.count(0); zone++) {
            for (int what = 0; what <= 2; what++) {
                h = mixed(h, x.low(zone, what));
            }
            h = mixed(h, x.group(zone, valves));
        }
        h = mixed(mixed(h, x.explains(0)), x.explains(valves));
        for (int d = -16; d <= 16; d++) {
            h = mixed(mixed(h, x.sum(d, 0)), x.sum(d, 1));
        }
        h = mixed(mixed(h, x.delay(false)), x.delay(true));
        h = mixed(h, x.place(50000, 3, 9, 0));
        for (int i = 0; i < x.count(2); i++) {
            h = mixed(mixed(mixed(h, x.cost(0, i)), x.closes(0, i)), x.closings(i));
        }
        for (int i = 0; i < x.count(3); i++) {
            h = mixed(h, x.order(i));
        }
        return mixed(h, x.lost());
    }

    private static long mixed(long h, long v) {
        // not the digest's own factor, so that what the digest may hide is told all the same
        return h * 1000003 + v;
    }
}
