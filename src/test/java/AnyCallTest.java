import java.util.Random;

/** Calls with any numbers, wrong ones most of all: none throws, and a refused one changes nothing. */
public final class AnyCallTest {
    private static final Checks CHECKS = new Checks("AnyCallTest");
    private static final int[] EDGES = {
        Integer.MIN_VALUE, Integer.MIN_VALUE + 1, NightWater.NOT - 1, NightWater.NOT,
        -1001, -1000, -101, -17, -16, -2, -1, 0, 1, 2, 7, 8, 11, 12, 15, 16, 20, 21, 23, 24, 63, 64,
        65, 100, 101, 200, 201, 1000, 1001, 2000, 2001, 4095, 4096, 5000, 5001, 20000, 20001,
        100000, 100001, Integer.MAX_VALUE - 1, Integer.MAX_VALUE
    };

    private final Random random;
    private final NightWater x = new NightWater();

    private AnyCallTest(int seed) {
        random = new Random(seed);
    }

    public static void main(String[] args) {
        for (int seed = 0; seed < 300; seed++) {
            new AnyCallTest(seed).run();
        }
        CHECKS.finish();
    }

    private int any() {
        switch (random.nextInt(4)) {
            case 0: return EDGES[random.nextInt(EDGES.length)];
            case 1: return random.nextInt();
            default: return random.nextInt(9);
        }
    }

    private void run() {
        for (int call = 0; call < 512; call++) {
            long before = x.digest();
            int kind = random.nextInt(24);
            int answer = kind < 12 ? first(kind) : second(kind);
            boolean refused = answer < NightWater.NONE && kind != 10 && kind != 22;
            if (refused) {
                CHECKS.due("digest after a refused call " + kind, x.digest(), before);
            }
        }
        CHECKS.holds("ended", true);
    }

    private int first(int kind) {
        switch (kind) {
            case 0: return x.zone(any(), any());
            case 1: return x.rules(any(), any());
            case 2: return x.read(any(), any(), random.nextBoolean(), any());
            case 3: return x.low(any(), any());
            case 4: return x.leaks(any(), any());
            case 5: return x.valve(any(), any());
            case 6: return x.group(any(), any());
            case 7: return x.explains(any());
            case 8: return x.fewest();
            case 9: return x.sample(any(), any(), any());
            case 10: return x.sum(any(), any());
            default: return x.delay(random.nextBoolean());
        }
    }

    private int second(int kind) {
        switch (kind) {
            case 12: return x.echo(any(), any(), any(), any());
            case 13: return x.place(any(), any(), any(), any());
            case 14: return x.section(any(), any(), any());
            case 15: return x.cost(any(), any());
            case 16: return x.closes(any(), any());
            case 17: return x.closings(any());
            case 18: return x.dig(any(), any());
            case 19: return x.order(any());
            case 20: return x.pulled(any(), any(), any());
            case 21: return x.count(any());
            case 22: return x.clear();
            default: return x.lost();
        }
    }
}
