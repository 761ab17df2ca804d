import java.util.Random;

/** Long runs of calls drawn by fixed seeds: the class answers as the plain model does. */
public final class ModelTest {
    private static final Checks CHECKS = new Checks("ModelTest");
    private static final int CALLS = 512;

    private final Random random;
    private final String run;
    private final NightWater x = new NightWater();
    private final Model model = new Model();

    private ModelTest(int seed) {
        random = new Random(seed);
        run = "seed " + seed + ", ";
    }

    public static void main(String[] args) {
        for (int seed = 0; seed < 60; seed++) {
            new ModelTest(seed).zoneCalls();
            new ModelTest(seed).listenerCalls();
            new ModelTest(seed).stepCalls();
            new ModelTest(seed).digCalls();
        }
        everyPressure();
        CHECKS.finish();
    }

    private static int none(int[] row, int what) {
        return row == null ? Model.NOT : row[what];
    }

    private void due(String call, long got, long want) {
        CHECKS.due(run + call, got, want);
    }

    private int draw(int least, int greatest) {
        return least + random.nextInt(greatest - least + 1);
    }

    /** Small numbers, so that like ones come often, or any in reach. */
    private int drawAny(int greatest) {
        return random.nextInt(4) == 0 ? draw(0, greatest) : draw(0, Math.min(greatest, 6));
    }

    private void sameDigest() {
        due("digest", x.digest(), model.digest());
    }

    private void zoneCalls() {
        for (int call = 0; call < CALLS; call++) {
            int zones = model.count(0);
            int kind = random.nextInt(60);
            if (zones == 0 || kind == 0) {
                int customers = drawAny(5000);
                int big = drawAny(5000);
                due("zone", x.zone(customers, big), model.zone(customers, big));
            } else if (kind == 1) {
                int e = draw(0, 200);
                int u = draw(0, 20);
                x.rules(e, u);
                model.rules(e, u);
            } else if (kind < 45) {
                reading(zones);
            } else if (kind < 48 && zones > 1) {
                int a = draw(0, zones - 1);
                int b = (a + draw(1, zones - 1)) % zones;
                due("valve", x.valve(a, b), model.valve(a, b));
            } else {
                askZones(zones, kind);
            }
        }
        due("fewest", x.fewest(), model.fewest());
        sameDigest();
    }

    private void reading(int zones) {
        int zone = draw(0, zones - 1);
        int hour = random.nextInt(5) == 0 ? draw(0, 23) : draw(1, 4);
        boolean in = random.nextBoolean();
        int v = random.nextInt(4) == 0 ? Model.NONE : drawAny(20000);
        due("read", x.read(zone, hour, in, v), model.read(zone, hour, in, v));
    }

    private void askZones(int zones, int kind) {
        int zone = draw(0, zones - 1);
        int set = draw(0, (1 << model.count(1)) - 1);
        if (kind < 50) {
            int what = draw(0, 2);
            due("low", x.low(zone, what), none(model.low(zone), what));
        } else if (kind < 52) {
            int what = draw(0, 1);
            due("leaks", x.leaks(zone, what), none(model.leaks(zone), what));
        } else if (kind < 55) {
            due("group", x.group(zone, set), model.group(zone, set));
        } else if (kind < 58) {
            due("explains", x.explains(set), model.explains(set));
        } else if (random.nextInt(3) == 0) {
            due("fewest", x.fewest(), model.fewest());
        } else {
            sameDigest();
        }
    }

    private void listenerCalls() {
        int reach = draw(0, 3) * 300 + 2;
        int lost = draw(2, 10);
        for (int call = 0; call < CALLS; call++) {
            int kind = random.nextInt(20);
            if (kind < 9) {
                int listener = draw(0, 1);
                int i = draw(0, 63);
                int v = random.nextInt(lost) == 0 ? Model.NOT : draw(-reach, reach);
                due("sample", x.sample(listener, i, v), 1);
                model.sample(listener, i, v);
            } else if (kind < 12) {
                int listener = draw(0, 1);
                int n = random.nextInt(5) == 0 ? draw(1, 64) : draw(1, 20);
                int i = draw(0, 64 - n);
                int j = draw(0, 64 - n);
                due("echo", x.echo(listener, i, j, n), 1);
                model.echo(listener, i, j, n);
            } else {
                askListeners(kind);
            }
        }
    }

    private void askListeners(int kind) {
        int d = draw(-16, 16);
        int what = draw(0, 1);
        int s = drawAny(1999) + 1;
        int t = draw(s, 2000);
        int length = draw(0, 1) == 0 ? draw(1, 100) : draw(1, 100000);
        if (kind < 14) {
            due("sum", x.sum(d, what), model.sum(d)[what]);
        } else if (kind < 18) {
            due("delay first", x.delay(false), model.delay(false));
            due("delay second", x.delay(true), model.delay(true));
        } else if (kind < 19) {
            due("place", x.place(length, s, t, what), model.place(length, s, t, what));
        } else {
            sameDigest();
        }
    }

    private void stepCalls() {
        for (int call = 0; call < CALLS; call++) {
            int sections = model.sections();
            int kind = random.nextInt(10);
            if (kind < 5) {
                int n = random.nextInt(4) == 0 ? draw(1, 12) : sections;
                int i = draw(0, n - 1);
                int weight = drawAny(1000);
                due("section", x.section(n, i, weight), model.section(n, i, weight));
            } else if (kind < 9) {
                int b = draw(0, sections - 1);
                int a = draw(0, b);
                int i = draw(0, sections - 1);
                due("cost", x.cost(a, b), model.cost(a, b));
                due("closes", x.closes(a, b), model.closes(a, b));
                due("closings", x.closings(i), model.closings(i));
            } else {
                sameDigest();
            }
        }
    }

    private void digCalls() {
        int most = draw(2, 6);
        for (int call = 0; call < 200; call++) {
            int kind = random.nextInt(20);
            if (model.count(3) > most || kind == 0) {
                due("clear", x.clear(), model.clear());
            } else if (kind < 12) {
                int loses = drawAny(1000);
                int hours = drawAny(99) + 1;
                due("dig", x.dig(loses, hours), model.dig(loses, hours));
            } else if (kind < 15) {
                due("lost", x.lost(), model.lost());
            } else {
                int i = draw(0, 8);
                due("order", x.order(i), model.order(i));
            }
        }
        sameDigest();
    }

    private static void everyPressure() {
        NightWater x = new NightWater();
        Model model = new Model();
        int[] leaks = {0, 1, 7, 9999, 100000};
        for (int p = 1; p <= 100; p++) {
            for (int q = 1; q <= 100; q++) {
                for (int v : leaks) {
                    CHECKS.due("pulled", x.pulled(v, p, q), model.pulled(v, p, q));
                }
            }
        }
    }
}
