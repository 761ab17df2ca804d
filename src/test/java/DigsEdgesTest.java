/** Terms 3 and promises 20 to 24: each sentence that names a boundary case has a test of its own. */
public final class DigsEdgesTest {
    private static final int NONE = NightWater.NONE;
    private static final int BAD = NightWater.BAD;
    private static final int FULL = NightWater.FULL;
    private static final Checks CHECKS = new Checks("DigsEdgesTest");

    public static void main(String[] args) {
        digsAreNumbered0To7();
        ninthDigIsFull();
        losesGoFrom0To1000();
        hoursGoFrom1To100();
        clearOfNone();
        clearOfAllEight();
        numbersBeginAnewAfterClear();
        lostOfNone();
        lostOfOne();
        lostAtItsGreatest();
        eachLosesTillItIsDone();
        whatLosesNothingGoesLast();
        orderOfNone();
        orderEndsWithTheDigs();
        orderOfLikeOnesIsByNumbers();
        orderIsHeldExactly();
        orderOfEight();
        orderLeavesNumbersAsTheyWere();
        pressureGoesFrom1To100();
        leakGoesFrom0To100000();
        pulledAtTheSamePressure();
        pulledIsCut();
        pulledByWholeRoots();
        pulledByCutRoots();
        pulledAtItsGreatest();
        pulledChangesNothing();
        CHECKS.finish();
    }

    private static void due(String call, long got, long want) {
        CHECKS.due(call, got, want);
    }

    private static NightWater digs(int... losesAndHours) {
        NightWater x = new NightWater();
        for (int i = 0; i < losesAndHours.length; i += 2) {
            x.dig(losesAndHours[i], losesAndHours[i + 1]);
        }
        return x;
    }

    private static void isOrder(String what, NightWater x, int... want) {
        due(what + ", so many", x.count(3), want.length);
        for (int i = 0; i < want.length; i++) {
            due(what + ", the " + i + "th", x.order(i), want[i]);
        }
        due(what + ", not so many", x.order(want.length), NONE);
    }

    /** Terms 3: "DIGS 0 .. 7, as they come"; promise 20: "its number". */
    private static void digsAreNumbered0To7() {
        NightWater x = new NightWater();
        for (int dig = 0; dig <= 7; dig++) {
            due("P23 not yet there", x.order(dig), NONE);
            due("P20 as they come", x.dig(1, 1), dig);
            due("P25 as they come", x.count(3), dig + 1);
            due("P23 there now, the last of like ones", x.order(dig), dig);
        }
    }

    /** Promise 20: "FULL: 8." and Terms, "the first of: BAD .. FULL". */
    private static void ninthDigIsFull() {
        NightWater x = digs(1, 1, 2, 2, 3, 3, 4, 4, 5, 5, 6, 6, 7, 7);
        due("P20 the last that goes in", x.dig(8, 8), 7);
        long lost = x.lost();
        CHECKS.refused(x, "P20 one more", () -> x.dig(1000, 1), FULL);
        CHECKS.refused(x, "P20 and again", () -> x.dig(0, 1), FULL);
        CHECKS.refused(x, "P20 BAD loses first", () -> x.dig(-1, 1), BAD);
        CHECKS.refused(x, "P20 BAD hours first", () -> x.dig(1, 101), BAD);
        due("P22 the same is lost", x.lost(), lost);
        due("P25 eight", x.count(3), 8);
    }

    /** Terms 3: "lose so much an hour (0 .. 1000)". */
    private static void losesGoFrom0To1000() {
        NightWater x = new NightWater();
        CHECKS.refused(x, "P20 loses -1", () -> x.dig(-1, 1), BAD);
        CHECKS.refused(x, "P20 loses 1001", () -> x.dig(1001, 1), BAD);
        due("P20 loses 0", x.dig(0, 5), 0);
        due("P22 nothing", x.lost(), 0);
        due("P20 loses 1000", x.dig(1000, 5), 1);
        due("P22 what it loses", x.lost(), 5000);
    }

    /** Terms 3: "take so many hours (1 .. 100)". */
    private static void hoursGoFrom1To100() {
        NightWater x = new NightWater();
        CHECKS.refused(x, "P20 hours 0", () -> x.dig(1, 0), BAD);
        CHECKS.refused(x, "P20 hours -1", () -> x.dig(1, -1), BAD);
        CHECKS.refused(x, "P20 hours 101", () -> x.dig(1, 101), BAD);
        due("P20 hours 1", x.dig(3, 1), 0);
        due("P22 one hour of it", x.lost(), 3);
        due("P20 hours 100", x.dig(3, 100), 1);
        due("P22 101 hours of it", x.lost(), 3 + 303);
    }

    /** Promise 21: "All DIGS go: how many", of none. */
    private static void clearOfNone() {
        NightWater x = new NightWater();
        long before = x.digest();
        due("P21 none", x.clear(), 0);
        due("P21 none again", x.clear(), 0);
        due("P26 nothing changed", x.digest(), before);
    }

    /** Promise 21: "All DIGS go: how many", of eight; nothing else goes. */
    private static void clearOfAllEight() {
        NightWater x = new NightWater();
        NightWater same = new NightWater();
        x.zone(1, 2);
        same.zone(1, 2);
        x.section(4, 3, 9);
        same.section(4, 3, 9);
        for (int dig = 0; dig < 8; dig++) {
            x.dig(1000, 100);
        }
        due("P21 eight", x.clear(), 8);
        due("P25 none", x.count(3), 0);
        due("P22 nothing is lost", x.lost(), 0);
        due("P23 no first", x.order(0), NONE);
        due("P21 none again", x.clear(), 0);
        due("P26 all else stays", x.digest(), same.digest());
    }

    /** Promise 21: after it DIGS come as on a new object, from 0 on and as many as 8. */
    private static void numbersBeginAnewAfterClear() {
        NightWater x = digs(1, 9, 2, 8, 3, 7, 4, 6, 5, 5, 6, 4, 7, 3, 8, 2);
        x.clear();
        for (int dig = 0; dig < 8; dig++) {
            due("P20 from 0 on", x.dig(5, 5), dig);
        }
        isOrder("P23 nothing of the old ones", x, 0, 1, 2, 3, 4, 5, 6, 7);
        due("P22 nothing of the old ones", x.lost(), 25 * 36);
        CHECKS.refused(x, "P20 a ninth", () -> x.dig(5, 5), FULL);
    }

    /** Promise 22, of no DIGS. */
    private static void lostOfNone() {
        due("P22 nothing", new NightWater().lost(), 0);
    }

    /** Terms 3: "each loses till it is done": of one, at both ends of its numbers. */
    private static void lostOfOne() {
        due("P22 least", digs(0, 1).lost(), 0);
        due("P22 one by one", digs(1, 1).lost(), 1);
        due("P22 nothing for long", digs(0, 100).lost(), 0);
        due("P22 greatest", digs(1000, 100).lost(), 100000);
    }

    /** Promise 22, where all numbers are at their greatest. */
    private static void lostAtItsGreatest() {
        NightWater x = digs();
        for (int dig = 0; dig < 8; dig++) {
            x.dig(1000, 100);
            int ended = dig + 1;
            due("P22 of " + ended, x.lost(), 100000L * ended * (ended + 1) / 2);
        }
        due("P22 the greatest there is", x.lost(), 3600000);
    }

    /** Terms 3: "one after another; each loses till it is done." */
    private static void eachLosesTillItIsDone() {
        due("P22 two", digs(10, 2, 10, 3).lost(), 20 + 50);
        due("P22 the other way as well", digs(10, 3, 10, 2).lost(), 20 + 50);
        due("P22 three", digs(6, 1, 5, 1, 4, 1).lost(), 6 + 10 + 12);
        due("P22 a long one that loses nothing keeps none waiting",
                digs(0, 100, 10, 1).lost(), 10);
    }

    /** Terms 3: "(0 .. 1000)": DIGS of 0 go behind all that lose, and by numbers among themselves. */
    private static void whatLosesNothingGoesLast() {
        isOrder("P23 behind the least", digs(0, 1, 1, 100), 1, 0);
        isOrder("P23 by numbers", digs(0, 100, 1, 100, 0, 1, 1000, 1), 3, 1, 0, 2);
        isOrder("P23 none loses", digs(0, 3, 0, 2, 0, 1), 0, 1, 2);
    }

    /** Promise 23: "NONE: not so many.", of none. */
    private static void orderOfNone() {
        NightWater x = new NightWater();
        CHECKS.refused(x, "P23 the first of none", () -> x.order(0), NONE);
        CHECKS.refused(x, "P23 below it", () -> x.order(-1), NONE);
    }

    /** Promise 23: "NONE: not so many." */
    private static void orderEndsWithTheDigs() {
        NightWater x = new NightWater();
        for (int many = 1; many <= 8; many++) {
            int beyond = many;
            x.dig(many, 1);
            due("P23 the last", x.order(many - 1), 0);
            due("P23 the first", x.order(0), many - 1);
            CHECKS.refused(x, "P23 not so many", () -> x.order(beyond), NONE);
        }
        CHECKS.refused(x, "P23 below 0", () -> x.order(-1), NONE);
        CHECKS.refused(x, "P23 least", () -> x.order(Integer.MIN_VALUE), NONE);
        CHECKS.refused(x, "P23 greatest", () -> x.order(Integer.MAX_VALUE), NONE);
    }

    /** Terms 3: "of like ones the first by numbers." */
    private static void orderOfLikeOnesIsByNumbers() {
        isOrder("P23 two alike", digs(5, 5, 5, 5), 0, 1);
        isOrder("P23 alike by the hour", digs(10, 5, 4, 2, 6, 3, 2, 1), 0, 1, 2, 3);
        isOrder("P23 alike, short ones first", digs(2, 1, 200, 100, 6, 3), 0, 1, 2);
        isOrder("P23 alike behind a better one", digs(4, 2, 2, 1, 3, 1, 6, 3), 2, 0, 1, 3);
        isOrder("P23 alike ahead of a worse one", digs(1, 1, 4, 2, 2, 1), 1, 2, 0);
    }

    /** Terms 3: "that by which all lose least": also where it is by little. */
    private static void orderIsHeldExactly() {
        isOrder("P23 989 by 99, 999 by 100", digs(989, 99, 999, 100), 1, 0);
        isOrder("P23 1000 by 99, 991 by 98", digs(1000, 99, 991, 98), 1, 0);
        isOrder("P23 1000 by 100, 999 by 100", digs(999, 100, 1000, 100), 1, 0);
        // 11 by 3 and 7 by 2 are both 3, cut
        isOrder("P23 11 by 3, 7 by 2", digs(7, 2, 11, 3), 1, 0);
        due("P22 11 by 3, then 7 by 2", digs(7, 2, 11, 3).lost(), 33 + 35);
    }

    /** Promise 23, of as many as there may be, in falling and in mixed order. */
    private static void orderOfEight() {
        isOrder("P23 each better than all before it",
                digs(1, 1, 2, 1, 3, 1, 4, 1, 5, 1, 6, 1, 7, 1, 8, 1), 7, 6, 5, 4, 3, 2, 1, 0);
        isOrder("P23 each worse", digs(8, 1, 7, 1, 6, 1, 5, 1, 4, 1, 3, 1, 2, 1, 1, 1),
                0, 1, 2, 3, 4, 5, 6, 7);
        isOrder("P23 mixed", digs(6, 3, 0, 100, 5, 1, 2, 1, 1000, 1, 1, 100, 4, 2, 500, 100),
                4, 2, 7, 0, 3, 6, 5, 1);
    }

    /** Promise 23 tells of DIGS by the numbers that promise 20 gave them. */
    private static void orderLeavesNumbersAsTheyWere() {
        NightWater x = digs(1, 1);
        due("P20 a better one", x.dig(9, 1), 1);
        due("P20 one between", x.dig(5, 1), 2);
        isOrder("P23 by their numbers", x, 1, 2, 0);
        NightWater y = digs(1, 1, 9, 1, 5, 1);
        due("P26 as they came", x.digest(), y.digest());
    }

    /** Terms 3: "PRESSURE 1 .. 100". */
    private static void pressureGoesFrom1To100() {
        NightWater x = new NightWater();
        due("P24 from 1 to 1", x.pulled(5, 1, 1), 5);
        due("P24 from 100 to 100", x.pulled(5, 100, 100), 5);
        CHECKS.refused(x, "P24 p 0", () -> x.pulled(5, 0, 1), BAD);
        CHECKS.refused(x, "P24 p 101", () -> x.pulled(5, 101, 1), BAD);
        CHECKS.refused(x, "P24 q 0", () -> x.pulled(5, 1, 0), BAD);
        CHECKS.refused(x, "P24 q 101", () -> x.pulled(5, 1, 101), BAD);
        CHECKS.refused(x, "P24 both 0", () -> x.pulled(0, 0, 0), BAD);
        CHECKS.refused(x, "P24 p -1", () -> x.pulled(5, -1, 1), BAD);
        CHECKS.refused(x, "P24 q -1", () -> x.pulled(5, 1, -1), BAD);
    }

    /** Promise 24: "A leak of v (0 .. 100000)". */
    private static void leakGoesFrom0To100000() {
        NightWater x = new NightWater();
        due("P24 v 0", x.pulled(0, 1, 100), 0);
        due("P24 v 100000", x.pulled(100000, 50, 50), 100000);
        CHECKS.refused(x, "P24 v -1", () -> x.pulled(-1, 1, 1), BAD);
        CHECKS.refused(x, "P24 v 100001", () -> x.pulled(100001, 1, 1), BAD);
    }

    /** Terms 3: "v times T(q) by T(p)": where p is q it is v. */
    private static void pulledAtTheSamePressure() {
        NightWater x = new NightWater();
        for (int p = 1; p <= 100; p++) {
            due("P24 at " + p, x.pulled(99999, p, p), 99999);
        }
    }

    /** Terms 3: "v times T(q) by T(p), cut". */
    private static void pulledIsCut() {
        NightWater x = new NightWater();
        // T(1) = 100, T(4) = 800
        due("P24 just 1", x.pulled(8, 4, 1), 1);
        due("P24 nearly 1", x.pulled(7, 4, 1), 0);
        due("P24 nearly 2", x.pulled(15, 4, 1), 1);
        due("P24 just 2", x.pulled(16, 4, 1), 2);
        due("P24 1000th parts", x.pulled(999, 100, 1), 0);
        due("P24 just one", x.pulled(1000, 100, 1), 1);
    }

    /** Terms 3: "the square of which is no more than 10000 x": squares are met. */
    private static void pulledByWholeRoots() {
        NightWater x = new NightWater();
        for (int root = 1; root <= 10; root++) {
            // T of a square is 100 times its root's third power
            due("P24 from 1 to " + root * root, x.pulled(100, 1, root * root),
                    100L * root * root * root);
        }
    }

    /** Terms 3: "the greatest whole number the square of which is no more than 10000 x". */
    private static void pulledByCutRoots() {
        NightWater x = new NightWater();
        int[] pressures = {2, 3, 5, 8, 10, 24, 26, 35, 50, 63, 80, 99};
        int[] roots = {141, 173, 223, 282, 316, 489, 509, 591, 707, 793, 894, 994};
        for (int i = 0; i < roots.length; i++) {
            int p = pressures[i];
            due("P24 from 1 to " + p, x.pulled(100, 1, p), (long) p * roots[i]);
        }
    }

    /** Terms 3: "v times T(q)" is beyond an int's reach, what comes of it is not. */
    private static void pulledAtItsGreatest() {
        NightWater x = new NightWater();
        due("P24 from 1 to 100", x.pulled(100000, 1, 100), 100000000);
        due("P24 from 1 to 99", x.pulled(100000, 1, 99), 98406000);
        due("P24 from 99 to 100", x.pulled(100000, 99, 100), 101619);
        due("P24 from 100 to 99", x.pulled(100000, 100, 99), 98406);
        due("P24 from 100 to 1", x.pulled(100000, 100, 1), 100);
    }

    /** Promise 24 asks only. */
    private static void pulledChangesNothing() {
        NightWater x = digs(3, 4);
        CHECKS.refused(x, "P24 good numbers", () -> x.pulled(10, 1, 4), 80);
    }
}
