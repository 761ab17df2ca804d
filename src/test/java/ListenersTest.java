/** Promises 11 to 15: samples, echoes, sums, delays, places. */
public final class ListenersTest {
    private static final int NOT = NightWater.NOT;
    private static final Checks CHECKS = new Checks("ListenersTest");

    public static void main(String[] args) {
        sample();
        echo();
        echoOfLost();
        echoRefused();
        sum();
        sumOfGreatest();
        sumWithLost();
        delayOfNoSound();
        delayByMeanNotBySum();
        delayExactly();
        likeDelays();
        secondDelay();
        noDelay();
        onlyOneDelay();
        place();
        placeWithDelayBelowZero();
        placeIsKeptOnThePipe();
        placeRefused();
        CHECKS.finish();
    }

    private static void due(String call, long got, long want) {
        CHECKS.due(call, got, want);
    }

    /** Both rows LOST, but for what comes after; 12 calls. */
    private static NightWater lostRows() {
        NightWater x = new NightWater();
        for (int i = 0; i < 4; i++) {
            x.sample(0, i, NOT);
        }
        x.echo(1, 0, 0, 4);
        x.echo(0, 4, 0, 4);
        x.echo(1, 4, 0, 8);
        x.echo(0, 8, 0, 8);
        x.echo(1, 12, 0, 16);
        x.echo(0, 16, 0, 16);
        x.echo(0, 32, 0, 16);
        x.echo(0, 48, 0, 16);
        x.echo(1, 0, 0, 64);
        return x;
    }

    private static void sample() {
        NightWater x = new NightWater();
        due("sample A", x.sample(0, 0, 1000), 1);
        due("sample B", x.sample(1, 63, -1000), 1);
        due("sample A again", x.sample(0, 0, -3), 1);
        due("sample B 0", x.sample(1, 0, 7), 1);
        due("product", x.sum(0, 0), -21);
        due("LOST", x.sample(1, 0, NOT), 1);
        due("one is LOST", x.count(5), 1);
        due("no pair", x.sum(0, 1), 63);
        due("found again", x.sample(1, 0, 2), 1);
        due("none is LOST", x.count(5), 0);
        due("product again", x.sum(0, 0), -6);
        CHECKS.refused(x, "listener -1", () -> x.sample(-1, 0, 1), -2);
        CHECKS.refused(x, "listener 2", () -> x.sample(2, 0, 1), -2);
        CHECKS.refused(x, "place -1", () -> x.sample(0, -1, 1), -2);
        CHECKS.refused(x, "place 64", () -> x.sample(0, 64, 1), -2);
        CHECKS.refused(x, "1001", () -> x.sample(0, 0, 1001), -2);
        CHECKS.refused(x, "-1001", () -> x.sample(0, 0, -1001), -2);
        CHECKS.refused(x, "NOT + 1", () -> x.sample(0, 0, NOT + 1), -2);
        CHECKS.refused(x, "NOT of no place", () -> x.sample(0, 64, NOT), -2);
    }

    private static void echo() {
        NightWater x = new NightWater();
        x.sample(0, 10, 5);
        x.sample(0, 11, 6);
        x.sample(0, 12, 7);
        due("echo to B", x.echo(1, 13, 10, 2), 1);
        due("two came", x.sum(3, 0), 25 + 36);
        due("the third stayed", x.sum(4, 0), 30);
        due("echo to A", x.echo(0, 0, 13, 1), 1);
        // A: 0 5, 10 5, 11 6, 12 7; B: 13 5, 14 6
        due("from B", x.sum(13, 0), 25);
        due("all of a row", x.echo(1, 0, 0, 64), 1);
        due("all of a row", x.sum(0, 0), 25 + 25 + 36 + 49);
        due("one of the ends", x.echo(0, 63, 63, 1), 1);
        due("the halves", x.echo(0, 0, 32, 32), 1);
        due("the halves", x.sum(0, 0), 0);
    }

    private static void echoOfLost() {
        NightWater x = new NightWater();
        x.sample(0, 3, NOT);
        x.echo(1, 5, 3, 2);
        due("LOST is copied", x.count(5), 2);
        x.echo(0, 3, 0, 1);
        due("LOST is copied over", x.count(5), 1);
        due("B's 5 is LOST", x.sum(0, 1), 63);
    }

    private static void echoRefused() {
        NightWater x = new NightWater();
        x.sample(0, 0, 9);
        x.sample(0, 63, 8);
        x.sample(1, 1, 4);
        CHECKS.refused(x, "echo listener -1", () -> x.echo(-1, 0, 0, 1), -2);
        CHECKS.refused(x, "echo listener 2", () -> x.echo(2, 0, 0, 1), -2);
        CHECKS.refused(x, "echo n 0", () -> x.echo(1, 0, 0, 0), -2);
        CHECKS.refused(x, "echo n 65", () -> x.echo(1, 0, 0, 65), -2);
        CHECKS.refused(x, "echo i -1", () -> x.echo(1, -1, 0, 1), -2);
        CHECKS.refused(x, "echo j -1", () -> x.echo(1, 0, -1, 1), -2);
        CHECKS.refused(x, "echo i beyond", () -> x.echo(1, 63, 0, 2), -2);
        CHECKS.refused(x, "echo j beyond", () -> x.echo(1, 0, 63, 2), -2);
        CHECKS.refused(x, "echo i 1 all", () -> x.echo(1, 1, 0, 64), -2);
        CHECKS.refused(x, "echo i 64", () -> x.echo(1, 64, 0, 1), -2);
        CHECKS.refused(x, "echo j 64", () -> x.echo(1, 0, 64, 1), -2);
        int big = Integer.MAX_VALUE;
        CHECKS.refused(x, "echo i greatest", () -> x.echo(1, big, 0, 64), -2);
        CHECKS.refused(x, "echo n greatest", () -> x.echo(1, 63, 0, big), -2);
    }

    private static void sum() {
        NightWater x = new NightWater();
        x.sample(0, 20, 3);
        x.sample(1, 36, 5);
        x.sample(1, 4, -7);
        due("d 16", x.sum(16, 0), 15);
        due("d -16", x.sum(-16, 0), -21);
        due("d 0", x.sum(0, 0), 0);
        due("count d 0", x.sum(0, 1), 64);
        due("count d 16", x.sum(16, 1), 48);
        due("count d -16", x.sum(-16, 1), 48);
        due("count d 1", x.sum(1, 1), 63);
        CHECKS.refused(x, "sum d 17", () -> x.sum(17, 0), NOT);
        CHECKS.refused(x, "sum d -17", () -> x.sum(-17, 1), NOT);
        CHECKS.refused(x, "sum what -1", () -> x.sum(0, -1), NOT);
        CHECKS.refused(x, "sum what 2", () -> x.sum(0, 2), NOT);
    }

    private static void sumOfGreatest() {
        NightWater x = new NightWater();
        for (int i = 0; i < 64; i++) {
            x.sample(0, i, 1000);
            x.sample(1, i, i < 32 ? -1000 : 1000);
        }
        due("halves", x.sum(0, 0), 0);
        x.echo(1, 0, 32, 32);
        x.echo(1, 0, 0, 64);
        due("all the greatest", x.sum(0, 0), 64000000);
    }

    private static void sumWithLost() {
        NightWater x = new NightWater();
        x.sample(0, 5, 2);
        x.sample(0, 6, 3);
        x.sample(1, 7, 11);
        x.sample(1, 8, 13);
        due("both", x.sum(2, 0), 22 + 39);
        x.sample(0, 5, NOT);
        due("A's lost", x.sum(2, 0), 39);
        due("A's lost, count", x.sum(2, 1), 61);
        x.sample(1, 8, NOT);
        due("B's lost", x.sum(2, 0), 0);
        due("B's lost, count", x.sum(2, 1), 60);
        NightWater y = lostRows();
        due("all lost", y.sum(0, 0), 0);
        due("all lost, count", y.sum(0, 1), 0);
        due("all lost are", y.count(5), 128);
    }

    private static void delayOfNoSound() {
        NightWater x = new NightWater();
        due("of like ones that of the least size", x.delay(false), 0);
        due("of like sizes that below 0", x.delay(true), -2);
    }

    private static void delayByMeanNotBySum() {
        NightWater x = lostRows();
        // d 2: 10 times 10 once; d -3: 9 times 15 twice, a greater sum but for more of them
        x.sample(0, 10, 10);
        x.sample(1, 12, 10);
        due("the only one", x.delay(false), 2);
        x.sample(0, 40, 9);
        x.sample(1, 37, 15);
        x.sample(0, 60, 3);
        x.sample(1, 57, 3);
        due("sum of d -3", x.sum(-3, 0), 144);
        due("sum of d 2", x.sum(2, 0), 100);
        due("100 by 1 is above 144 by 2", x.delay(false), 2);
        x.sample(1, 57, 22);
        due("201 by 2 is above 100 by 1", x.delay(false), -3);
        x.sample(1, 57, 21);
        due("198 by 2 is not", x.delay(false), 2);
    }

    private static void delayExactly() {
        NightWater x = new NightWater();
        for (int i = 0; i < 64; i++) {
            x.sample(0, i, 30);
            x.sample(1, i, 30);
        }
        due("all alike", x.delay(false), 0);
        x.sample(1, 0, 29);
        // B's first is heard by no d above 0: there the mean is 900 still
        due("those without B's first", x.delay(false), 1);
        due("second", x.delay(true), 3);
        x.sample(0, 63, 31);
        // heard by no d above 0 either, and up to 0 it makes good what B's first takes
        due("the mean is 900 by all", x.delay(false), 0);
    }

    private static void likeDelays() {
        NightWater x = lostRows();
        x.sample(0, 20, 5);
        x.sample(1, 17, 4);
        x.sample(1, 23, 4);
        due("like sizes, that below 0", x.delay(false), -3);
        x.sample(1, 22, 4);
        due("the least size", x.delay(false), 2);
        x.sample(1, 18, 4);
        due("like sizes again", x.delay(false), -2);
        NightWater y = new NightWater();
        y.sample(0, 30, 1);
        y.sample(1, 30, -1);
        due("d 0 has a mean below 0", y.delay(false), -1);
    }

    private static void secondDelay() {
        NightWater x = new NightWater();
        x.sample(0, 30, 10);
        x.sample(1, 35, 10);
        x.sample(1, 34, 9);
        x.sample(1, 36, 9);
        x.sample(1, 33, 2);
        x.sample(1, 37, 1);
        due("first", x.delay(false), 5);
        due("second is not one beside it", x.delay(true), 3);
        x.sample(1, 37, 3);
        due("two beside it above", x.delay(true), 7);
        x.sample(1, 46, 4);
        due("the farthest", x.delay(true), 16);
        x.sample(1, 46, 1000);
        due("the farthest first", x.delay(false), 16);
        due("then the other", x.delay(true), 5);
        x.sample(1, 14, 1000);
        due("like sizes, that below 0", x.delay(false), -16);
        due("and its second", x.delay(true), 16);
    }

    private static void noDelay() {
        NightWater x = lostRows();
        due("no delay", x.delay(false), -101);
        due("no second", x.delay(true), -101);
        x.sample(0, 0, 5);
        x.sample(1, 17, 5);
        due("too far apart", x.delay(false), -101);
        due("no place", x.place(100, 1, 2, 0), -3);
        CHECKS.refused(x, "BAD goes ahead of NO", () -> x.place(0, 1, 2, 0), -2);
        CHECKS.refused(x, "BAD what goes ahead of NO", () -> x.place(1, 1, 2, 2), -2);
        CHECKS.refused(x, "NO changes nothing", () -> x.place(1, 1, 2, 1), -3);
    }

    private static void onlyOneDelay() {
        NightWater x = lostRows();
        x.sample(0, 16, -5);
        x.sample(1, 0, 5);
        due("the only one, below 0", x.delay(false), -16);
        due("no second", x.delay(true), -101);
        x.sample(1, 1, 5);
        due("of like means the least size", x.delay(false), -15);
        due("one beside it is no second", x.delay(true), -101);
        x.sample(1, 2, 5);
        due("the other side", x.delay(false), -14);
        due("a second", x.delay(true), -16);
    }

    private static NightWater delayed(int d) {
        NightWater x = new NightWater();
        x.sample(0, 30, 10);
        x.sample(1, 30 + d, 10);
        return x;
    }

    private static void place() {
        NightWater x = delayed(4);
        due("the delay", x.delay(false), 4);
        due("least", x.place(1000, 5, 9, 0), 1000 - 36);
        due("greatest", x.place(1000, 5, 9, 1), 1000 - 20);
        due("one speed", x.place(1001, 7, 7, 0), 1001 - 28);
        due("one speed", x.place(1001, 7, 7, 1), 1001 - 28);
        due("long, fast", x.place(100000, 1, 2000, 0), 92000);
        due("long, slow", x.place(100000, 1, 2000, 1), 99996);
        NightWater y = delayed(0);
        due("the middle", y.place(1, 1, 2000, 0), 1);
        due("the middle", y.place(1, 1, 2000, 1), 1);
    }

    private static void placeWithDelayBelowZero() {
        NightWater x = delayed(-16);
        due("the delay", x.delay(false), -16);
        due("least", x.place(1000, 5, 9, 0), 1000 + 80);
        due("greatest", x.place(1000, 5, 9, 1), 1000 + 144);
        due("twice the length at most", x.place(100, 6, 7, 0), 196);
        due("twice the length at most", x.place(100, 6, 7, 1), 200);
        due("both", x.place(10, 6, 7, 0), 20);
    }

    private static void placeIsKeptOnThePipe() {
        NightWater x = delayed(16);
        due("0 at least", x.place(100, 6, 7, 0), 0);
        due("0 at least", x.place(100, 6, 7, 1), 4);
        due("both", x.place(10, 2000, 2000, 1), 0);
    }

    private static void placeRefused() {
        NightWater x = delayed(3);
        CHECKS.refused(x, "length 0", () -> x.place(0, 1, 2, 0), -2);
        CHECKS.refused(x, "length 100001", () -> x.place(100001, 1, 2, 0), -2);
        CHECKS.refused(x, "s 0", () -> x.place(10, 0, 2, 0), -2);
        CHECKS.refused(x, "t 2001", () -> x.place(10, 1, 2001, 0), -2);
        CHECKS.refused(x, "s 2001", () -> x.place(10, 2001, 2001, 0), -2);
        CHECKS.refused(x, "t 0", () -> x.place(10, 1, 0, 0), -2);
        CHECKS.refused(x, "from s down to t", () -> x.place(10, 3, 2, 0), -2);
        CHECKS.refused(x, "what -1", () -> x.place(10, 1, 2, -1), -2);
        CHECKS.refused(x, "what 2", () -> x.place(10, 1, 2, 2), -2);
    }
}
