/** Promises 20 to 24: digs, their order, what they lose, and pressure. */
public final class DigsTest {
    private static final Checks CHECKS = new Checks("DigsTest");

    public static void main(String[] args) {
        dig();
        digRefused();
        clear();
        lost();
        order();
        orderOfLikeOnes();
        orderBeyond();
        pulled();
        pulledCutsTwice();
        pulledRefused();
        CHECKS.finish();
    }

    private static void due(String call, long got, long want) {
        CHECKS.due(call, got, want);
    }

    private static NightWater digs(int... losesAndHours) {
        NightWater x = new NightWater();
        for (int i = 0; i < losesAndHours.length; i += 2) {
            x.dig(losesAndHours[i], losesAndHours[i + 1]);
        }
        return x;
    }

    private static void isOrder(String what, NightWater x, int... want) {
        for (int i = 0; i < want.length; i++) {
            due(what + ", order(" + i + ")", x.order(i), want[i]);
        }
        due(what + ", no more", x.order(want.length), -1);
    }

    private static void dig() {
        NightWater x = new NightWater();
        due("least", x.dig(0, 1), 0);
        due("greatest", x.dig(1000, 100), 1);
        for (int number = 2; number < 8; number++) {
            due("dig " + number, x.dig(number, number), number);
        }
        due("eight", x.count(3), 8);
        CHECKS.refused(x, "ninth", () -> x.dig(1, 1), -4);
        CHECKS.refused(x, "BAD ahead of FULL", () -> x.dig(1, 0), -2);
        due("clear", x.clear(), 8);
        due("again", x.dig(5, 5), 0);
    }

    private static void digRefused() {
        NightWater x = digs(3, 4);
        CHECKS.refused(x, "loses -1", () -> x.dig(-1, 1), -2);
        CHECKS.refused(x, "loses 1001", () -> x.dig(1001, 1), -2);
        CHECKS.refused(x, "hours 0", () -> x.dig(1, 0), -2);
        CHECKS.refused(x, "hours 101", () -> x.dig(1, 101), -2);
        due("one as before", x.count(3), 1);
        due("lost as before", x.lost(), 12);
    }

    private static void clear() {
        NightWater x = digs(3, 4, 5, 6, 7, 8);
        x.zone(1, 1);
        due("three", x.clear(), 3);
        due("none", x.count(3), 0);
        due("none again", x.clear(), 0);
        due("nothing is lost", x.lost(), 0);
        due("no order", x.order(0), -1);
        due("zones stay", x.count(0), 1);
        x.dig(1, 9);
        x.dig(2, 9);
        isOrder("after clear", x, 1, 0);
    }

    private static void lost() {
        due("one", digs(10, 5).lost(), 50);
        // 4 by 2 first, then 10 by 5 alike, then 6 by 4
        due("three", digs(6, 4, 10, 5, 4, 2).lost(), 50 + 4 * 7 + 6 * 11);
        due("a long one waits", digs(10, 100, 10, 1).lost(), 10 + 10 * 101);
        due("nothing lost", digs(0, 100, 0, 50).lost(), 0);
        NightWater x = new NightWater();
        for (int i = 0; i < 8; i++) {
            x.dig(1000, 100);
        }
        due("the greatest", x.lost(), 3600000);
    }

    private static void order() {
        isOrder("by rate", digs(1, 10, 5, 10, 3, 10), 1, 2, 0);
        isOrder("not by loss", digs(10, 100, 5, 10), 1, 0);
        isOrder("not by hours", digs(1, 1, 50, 10), 1, 0);
        isOrder("nearly alike", digs(999, 100, 1000, 100, 10, 1), 1, 2, 0);
        isOrder("nothing lost goes last", digs(0, 1, 1, 100), 1, 0);
    }

    private static void orderOfLikeOnes() {
        isOrder("like ones by number", digs(10, 5, 4, 2, 6, 3, 0, 1), 0, 1, 2, 3);
        isOrder("like ones after a better", digs(2, 1, 4, 2, 9, 3, 6, 3), 2, 0, 1, 3);
        isOrder("none loses", digs(0, 100, 0, 1, 0, 50), 0, 1, 2);
    }

    private static void orderBeyond() {
        NightWater x = digs(1, 1, 2, 1);
        due("-1", x.order(-1), -1);
        due("2", x.order(2), -1);
        due("least", x.order(Integer.MIN_VALUE), -1);
        due("greatest", x.order(Integer.MAX_VALUE), -1);
    }

    private static void pulled() {
        NightWater x = new NightWater();
        // T(100) = 100 * 1000, T(25) = 25 * 500, T(1) = 100, T(2) = 2 * 141, T(99) = 99 * 994
        due("100 to 25", x.pulled(1000, 100, 25), 125);
        due("25 to 100", x.pulled(1000, 25, 100), 8000);
        due("the same", x.pulled(77, 9, 9), 77);
        due("nothing", x.pulled(0, 1, 100), 0);
        due("the greatest", x.pulled(100000, 1, 100), 100000000);
        due("the least", x.pulled(100000, 100, 1), 100);
        due("1 to 2", x.pulled(100000, 1, 2), 282000);
        due("99 to 1", x.pulled(98406, 99, 1), 100);
        due("99 to 1, cut", x.pulled(98405, 99, 1), 99);
        due("1 to 99", x.pulled(1, 1, 99), 984);
    }

    private static void pulledCutsTwice() {
        NightWater x = new NightWater();
        // the root of 30000 is 173.2: T(3) = 519; of 70000 is 264.5: T(7) = 1848
        due("3 to 7", x.pulled(100000, 3, 7), 356069);
        due("7 to 3", x.pulled(100000, 7, 3), 28084);
    }

    private static void pulledRefused() {
        NightWater x = new NightWater();
        CHECKS.refused(x, "v -1", () -> x.pulled(-1, 1, 1), -2);
        CHECKS.refused(x, "v 100001", () -> x.pulled(100001, 1, 1), -2);
        CHECKS.refused(x, "p 0", () -> x.pulled(1, 0, 1), -2);
        CHECKS.refused(x, "p 101", () -> x.pulled(1, 101, 1), -2);
        CHECKS.refused(x, "q 0", () -> x.pulled(1, 1, 0), -2);
        CHECKS.refused(x, "q 101", () -> x.pulled(1, 1, 101), -2);
    }
}
