/** Terms 2 and promises 11 to 15: each sentence that names a boundary case has a test of its own. */
public final class ListenersEdgesTest {
    private static final int A = 0;
    private static final int B = 1;
    private static final int BAD = NightWater.BAD;
    private static final int NO = NightWater.NO;
    private static final int NOT = NightWater.NOT;
    private static final int NO_DELAY = NightWater.NONE - 100;
    private static final Checks CHECKS = new Checks("ListenersEdgesTest");

    public static void main(String[] args) {
        listenersAreAAndB();
        rowsHave64Samples();
        samplesGoFromMinus1000To1000();
        lostSampleIsNot();
        echoTakes1To64();
        echoEndsAt63();
        echoFarBeyondIsBad();
        echoCopiesAsTheyStand();
        echoLeavesTheOtherRow();
        delaysGoFromMinus16To16();
        sumPairsBothEnds();
        countIsOfThoseThere();
        countOfNone();
        sumsAtTheirGreatest();
        lostSampleIsNoZero();
        sumOfWrongNumbersIsNot();
        delayNeedsCountAbove0();
        delayIsByCount();
        delayIsHeldExactly();
        delayAtTheGreatestSums();
        delayOfMeansBelow0();
        likeDelaysOfTheLeastSize();
        likeDelaysBelow0();
        secondIsNotBeside();
        secondAtBothEnds();
        secondAsFirstOfLikeOnes();
        noDelayAndNoSecond();
        placeIs0AtLeast();
        placeIsTwiceTheLengthAtMost();
        placeOfDelay0();
        placeOverBothSpeeds();
        placeAtItsGreatest();
        placeIsOfTheFirstDelay();
        placeWithoutDelay();
        placeOfWrongNumbers();
        CHECKS.finish();
    }

    private static void due(String call, long got, long want) {
        CHECKS.due(call, got, want);
    }

    /** Both rows LOST: 65 calls. */
    private static NightWater allLost() {
        NightWater x = new NightWater();
        for (int i = 0; i < 64; i++) {
            x.sample(A, i, NOT);
        }
        x.echo(B, 0, 0, 64);
        return x;
    }

    /** A sound that A hears at 30, and B so much later. */
    private static NightWater delayed(int d) {
        NightWater x = new NightWater();
        x.sample(A, 30, 10);
        x.sample(B, 30 + d, 10);
        return x;
    }

    /** Promise 11: "A sample of a LISTENER (0 A, 1 B)". */
    private static void listenersAreAAndB() {
        NightWater x = new NightWater();
        due("P11 A", x.sample(0, 20, 3), 1);
        due("P11 B", x.sample(1, 25, 4), 1);
        due("P13 B hears it after A", x.sum(5, 0), 12);
        due("P13 not before", x.sum(-5, 0), 0);
        CHECKS.refused(x, "P11 before A", () -> x.sample(-1, 20, 5), BAD);
        CHECKS.refused(x, "P11 after B", () -> x.sample(2, 20, 5), BAD);
    }

    /** Terms 2: "ROWS of 64 samples". */
    private static void rowsHave64Samples() {
        NightWater x = new NightWater();
        for (int listener = A; listener <= B; listener++) {
            int one = listener;
            due("P11 the first", x.sample(one, 0, 7), 1);
            due("P11 the last", x.sample(one, 63, 11), 1);
            CHECKS.refused(x, "P11 before the first", () -> x.sample(one, -1, 5), BAD);
            CHECKS.refused(x, "P11 after the last", () -> x.sample(one, 64, 5), BAD);
        }
        due("P13 the first and the last", x.sum(0, 0), 49 + 121);
        due("P13 all of them", x.sum(0, 1), 64);
    }

    /** Terms 2: "(-1000 .. 1000; 0 at first)". */
    private static void samplesGoFromMinus1000To1000() {
        NightWater x = new NightWater();
        x.sample(B, 9, 1);
        due("P11 the greatest", x.sample(A, 9, 1000), 1);
        CHECKS.refused(x, "P11 above it", () -> x.sample(A, 9, 1001), BAD);
        due("P13 it holds", x.sum(0, 0), 1000);
        due("P11 the least", x.sample(A, 9, -1000), 1);
        CHECKS.refused(x, "P11 below it", () -> x.sample(A, 9, -1001), BAD);
        due("P13 it holds", x.sum(0, 0), -1000);
        due("P11 NONE is a sample like others", x.sample(A, 9, NightWater.NONE), 1);
        due("P13 it holds", x.sum(0, 0), -1);
        due("P25 it is not LOST", x.count(5), 0);
        due("P11 FULL is a sample like others", x.sample(A, 9, NightWater.FULL), 1);
        due("P13 it holds", x.sum(0, 0), -4);
    }

    /** Promise 11: "or LOST (NOT): 1." */
    private static void lostSampleIsNot() {
        NightWater x = new NightWater();
        due("P11 LOST", x.sample(B, 63, NOT), 1);
        due("P11 LOST again", x.sample(B, 63, NOT), 1);
        due("P25 it is one", x.count(5), 1);
        CHECKS.refused(x, "P11 above NOT", () -> x.sample(B, 63, NOT + 1), BAD);
        CHECKS.refused(x, "P11 below NOT", () -> x.sample(B, 63, NOT - 1), BAD);
        CHECKS.refused(x, "P11 LOST at 64", () -> x.sample(B, 64, NOT), BAD);
        CHECKS.refused(x, "P11 LOST at -1", () -> x.sample(B, -1, NOT), BAD);
        CHECKS.refused(x, "P11 LOST by a third", () -> x.sample(2, 0, NOT), BAD);
        due("P11 found again", x.sample(B, 63, 0), 1);
        due("P25 none is LOST", x.count(5), 0);
    }

    /** Promise 12: "n samples (1 .. 64)". */
    private static void echoTakes1To64() {
        NightWater x = new NightWater();
        x.sample(A, 0, 2);
        x.sample(A, 1, 3);
        x.sample(A, 63, 5);
        CHECKS.refused(x, "P12 n 0", () -> x.echo(B, 0, 0, 0), BAD);
        CHECKS.refused(x, "P12 n -1", () -> x.echo(B, 5, 5, -1), BAD);
        CHECKS.refused(x, "P12 n 65", () -> x.echo(B, 0, 0, 65), BAD);
        due("P12 n 1", x.echo(B, 0, 0, 1), 1);
        due("P12 just one", x.sum(0, 0), 4);
        due("P12 n 64", x.echo(B, 0, 0, 64), 1);
        due("P12 all of them", x.sum(0, 0), 4 + 9 + 25);
    }

    /** Promise 12: "BAD: beyond 63, too." */
    private static void echoEndsAt63() {
        NightWater x = new NightWater();
        x.sample(A, 61, 2);
        x.sample(A, 62, 3);
        x.sample(A, 63, 5);
        due("P12 i and j up to 63", x.echo(B, 61, 61, 3), 1);
        due("P12 up to 63", x.sum(0, 0), 4 + 9 + 25);
        CHECKS.refused(x, "P12 i one beyond", () -> x.echo(B, 62, 61, 3), BAD);
        CHECKS.refused(x, "P12 j one beyond", () -> x.echo(B, 61, 62, 3), BAD);
        due("P12 i up to 63, one", x.echo(B, 63, 61, 1), 1);
        due("P13 63 by 61", x.sum(0, 0), 4 + 9 + 10);
        due("P12 j up to 63, one", x.echo(B, 0, 63, 1), 1);
        due("P13 B's first by A's 0", x.sum(0, 0), 4 + 9 + 10);
        CHECKS.refused(x, "P12 i 64", () -> x.echo(B, 64, 0, 1), BAD);
        CHECKS.refused(x, "P12 j 64", () -> x.echo(B, 0, 64, 1), BAD);
        CHECKS.refused(x, "P12 i -1", () -> x.echo(B, -1, 0, 1), BAD);
        CHECKS.refused(x, "P12 j -1", () -> x.echo(B, 0, -1, 1), BAD);
        CHECKS.refused(x, "P12 i 1, all", () -> x.echo(B, 1, 0, 64), BAD);
        CHECKS.refused(x, "P12 j 1, all", () -> x.echo(B, 0, 1, 64), BAD);
    }

    /** Promise 12: "beyond 63, too", where i and n put together wrap around. */
    private static void echoFarBeyondIsBad() {
        int most = Integer.MAX_VALUE;
        NightWater x = delayed(3);
        CHECKS.refused(x, "P12 i", () -> x.echo(B, most, 0, 64), BAD);
        CHECKS.refused(x, "P12 j", () -> x.echo(B, 0, most, 64), BAD);
        CHECKS.refused(x, "P12 n", () -> x.echo(B, 63, 63, most), BAD);
        CHECKS.refused(x, "P12 all", () -> x.echo(B, most, most, most), BAD);
        CHECKS.refused(x, "P12 least i", () -> x.echo(B, Integer.MIN_VALUE, 0, 1), BAD);
        CHECKS.refused(x, "P12 least n", () -> x.echo(B, 0, 0, Integer.MIN_VALUE), BAD);
    }

    /** Promise 12: "are those of the other LISTENER from place j on, as they stand": LOST ones, too. */
    private static void echoCopiesAsTheyStand() {
        NightWater x = new NightWater();
        x.sample(A, 10, 1000);
        x.sample(A, 11, NOT);
        x.sample(A, 12, -1000);
        x.sample(B, 30, NOT);
        due("P25 two LOST", x.count(5), 2);
        due("P12 a LOST one between", x.echo(B, 20, 10, 3), 1);
        due("P25 three LOST", x.count(5), 3);
        due("P13 the others", x.sum(10, 0), 2000000);
        due("P12 over a LOST one", x.echo(B, 30, 0, 1), 1);
        due("P25 it is found", x.count(5), 2);
        due("P12 back to A", x.echo(A, 0, 21, 1), 1);
        due("P25 LOST in A", x.count(5), 3);
    }

    /** Promise 12: no other sample changes, and the other LISTENER's none. */
    private static void echoLeavesTheOtherRow() {
        NightWater x = new NightWater();
        NightWater want = new NightWater();
        for (int i = 0; i < 64; i++) {
            x.sample(A, i, 100 + i);
            want.sample(A, i, 100 + i);
            x.sample(B, i, 500 + i);
            want.sample(B, i, i >= 7 && i < 17 ? 100 + i + 13 : 500 + i);
        }
        due("P12 ten of them", x.echo(B, 7, 20, 10), 1);
        due("P26 just these", x.digest(), want.digest());
        due("P12 the same to A", x.echo(A, 20, 7, 10), 1);
        due("P26 they were A's", x.digest(), want.digest());
    }

    /** Terms 2: "a delay d (-16 .. 16)". */
    private static void delaysGoFromMinus16To16() {
        NightWater x = new NightWater();
        x.sample(A, 31, 2);
        x.sample(B, 15, 3);
        x.sample(B, 47, 5);
        x.sample(B, 14, 1000);
        x.sample(B, 48, 1000);
        due("P13 d -16", x.sum(-16, 0), 6);
        due("P13 d 16", x.sum(16, 0), 10);
        for (int what = 0; what <= 1; what++) {
            int asked = what;
            CHECKS.refused(x, "P13 d -17", () -> x.sum(-17, asked), NOT);
            CHECKS.refused(x, "P13 d 17", () -> x.sum(17, asked), NOT);
        }
        due("P14 no farther than 16", x.delay(false), 16);
        due("P14 no farther than -16", x.delay(true), -16);
    }

    /** Terms 2: "A's i-th times B's (i + d)-th (both 0 .. 63": the first and the last pair of a d. */
    private static void sumPairsBothEnds() {
        NightWater x = new NightWater();
        x.sample(A, 0, 2);
        x.sample(A, 47, 3);
        x.sample(B, 16, 5);
        x.sample(B, 63, 7);
        due("P13 d 16, the first and the last", x.sum(16, 0), 2 * 5 + 3 * 7);
        NightWater y = new NightWater();
        y.sample(A, 16, 2);
        y.sample(A, 63, 3);
        y.sample(B, 0, 5);
        y.sample(B, 47, 7);
        due("P13 d -16, the first and the last", y.sum(-16, 0), 2 * 5 + 3 * 7);
        NightWater z = new NightWater();
        z.sample(A, 48, 1000);
        z.sample(B, 0, 1000);
        due("P13 a row does not go round, d 16", z.sum(16, 0), 0);
        z.sample(A, 0, 1000);
        z.sample(B, 63, 1000);
        due("P13 a row does not go round, d -1", z.sum(-1, 0), 0);
    }

    /** Terms 2: "COUNT how many these are": of all there, and of those that are not LOST. */
    private static void countIsOfThoseThere() {
        NightWater x = new NightWater();
        for (int d = -16; d <= 16; d++) {
            due("P13 COUNT at " + d, x.sum(d, 1), 64 - Math.abs(d));
        }
        x.sample(A, 20, NOT);
        due("P13 A's LOST", x.sum(3, 1), 60);
        x.sample(B, 23, NOT);
        due("P13 both LOST are one pair at 3", x.sum(3, 1), 60);
        due("P13 and two at 4", x.sum(4, 1), 58);
        x.sample(A, 63, NOT);
        due("P13 A's last is no pair at 3", x.sum(3, 1), 60);
        due("P13 but is at 0", x.sum(0, 1), 61);
        x.sample(B, 0, NOT);
        due("P13 B's first is no pair at 3", x.sum(3, 1), 60);
        due("P13 but is at -3", x.sum(-3, 1), 57);
    }

    /** Promise 13, where COUNT is 0: THE SUM is that of no products. */
    private static void countOfNone() {
        NightWater x = allLost();
        due("P25 all LOST", x.count(5), 128);
        for (int d = -16; d <= 16; d++) {
            due("P13 COUNT of none at " + d, x.sum(d, 1), 0);
            due("P13 SUM of none at " + d, x.sum(d, 0), 0);
        }
        x.sample(A, 0, 9);
        due("P13 A's alone", x.sum(0, 1), 0);
        x.sample(B, 16, 9);
        due("P13 the one pair", x.sum(16, 1), 1);
        due("P13 its SUM", x.sum(16, 0), 81);
    }

    /** Terms 2: sums where all samples are at their greatest. */
    private static void sumsAtTheirGreatest() {
        NightWater x = new NightWater();
        for (int i = 0; i < 64; i++) {
            x.sample(A, i, 1000);
        }
        x.echo(B, 0, 0, 64);
        due("P13 the greatest", x.sum(0, 0), 64000000);
        due("P13 at 16", x.sum(16, 0), 48000000);
        for (int i = 0; i < 64; i++) {
            x.sample(A, i, -1000);
        }
        due("P13 the least", x.sum(0, 0), -64000000);
        x.echo(B, 0, 0, 64);
        due("P13 the greatest of those below 0", x.sum(0, 0), 64000000);
    }

    /** Terms 2: "not LOST": a LOST sample is not one of 0. */
    private static void lostSampleIsNoZero() {
        NightWater x = allLost();
        x.sample(A, 10, -5);
        x.sample(B, 12, 4);
        due("P14 a mean below 0 where others have none", x.delay(false), 2);
        x.sample(B, 10, 0);
        due("P14 a mean of 0 goes ahead of it", x.delay(false), 0);
        x.sample(B, 10, NOT);
        due("P14 LOST again", x.delay(false), 2);
    }

    /** Promise 13: "BAD: NOT." */
    private static void sumOfWrongNumbersIsNot() {
        NightWater x = delayed(4);
        CHECKS.refused(x, "P13 what -1", () -> x.sum(4, -1), NOT);
        CHECKS.refused(x, "P13 what 2", () -> x.sum(4, 2), NOT);
        CHECKS.refused(x, "P13 both wrong", () -> x.sum(17, 2), NOT);
        CHECKS.refused(x, "P13 least", () -> x.sum(Integer.MIN_VALUE, 0), NOT);
        CHECKS.refused(x, "P13 greatest", () -> x.sum(Integer.MAX_VALUE, 0), NOT);
        due("P13 good numbers", x.sum(4, 0), 100);
    }

    /** Terms 2: "(COUNT above 0": a d of no pairs is none, one of a single pair is one. */
    private static void delayNeedsCountAbove0() {
        NightWater x = allLost();
        x.sample(A, 40, -1000);
        x.sample(B, 56, 1000);
        due("P14 a single pair, far below 0", x.delay(false), 16);
        x.sample(B, 24, 1000);
        due("P14 of like ones that below 0", x.delay(false), -16);
        due("P14 the other", x.delay(true), 16);
        x.sample(A, 40, NOT);
        due("P14 no pair", x.delay(false), NO_DELAY);
    }

    /** Terms 2: "the greatest of THE SUM by COUNT": not the greatest SUM. */
    private static void delayIsByCount() {
        NightWater x = allLost();
        x.sample(A, 5, 10);
        x.sample(B, 8, 10);
        x.sample(A, 30, 9);
        x.sample(A, 50, 9);
        x.sample(B, 23, 11);
        x.sample(B, 43, 11);
        due("P13 at 3, 100 by 1", x.sum(3, 0), 100);
        due("P13 at -7, 198 by 2", x.sum(-7, 0), 198);
        due("P14 100 is more than 99", x.delay(false), 3);
        due("P14 then 99", x.delay(true), -7);
    }

    /** Terms 2: "held against one another exactly": means whose whole parts are alike. */
    private static void delayIsHeldExactly() {
        NightWater x = new NightWater();
        x.sample(A, 30, 1);
        x.sample(B, 30, 1);
        x.sample(B, 25, 1);
        // 1 by 64 at 0, 1 by 59 at -5: both are 0, cut
        due("P14 1 by 59 is more than 1 by 64", x.delay(false), -5);
        x.sample(A, 30, -1);
        // -1 by 64 and -1 by 59 are below 0, which all others are
        due("P14 0 is more than -1 by 64", x.delay(false), -1);
        NightWater y = new NightWater();
        for (int i = 0; i < 64; i++) {
            y.sample(A, i, 1000);
            y.sample(B, i, 1000);
        }
        due("P14 like means of unlike counts", y.delay(false), 0);
        due("P14 like means, SECOND", y.delay(true), -2);
        y.sample(A, 63, 999);
        // 1000000 where A's last has no pair, a hair less elsewhere
        due("P14 a hair more", y.delay(false), 1);
        due("P14 a hair more, SECOND", y.delay(true), 3);
        y.sample(A, 63, 1000);
        y.sample(B, 63, 999);
        due("P14 a hair more on the other side", y.delay(false), -1);
        due("P14 a hair more on the other side, SECOND", y.delay(true), -3);
    }

    /** Terms 2: THE DELAY where sums are at their greatest, with counts to be held against. */
    private static void delayAtTheGreatestSums() {
        NightWater x = new NightWater();
        for (int i = 0; i < 64; i++) {
            x.sample(A, i, i % 2 == 0 ? 1000 : -1000);
        }
        x.echo(B, 1, 0, 63);
        x.sample(B, 0, -1000);
        due("P13 all against", x.sum(0, 0), -64000000);
        due("P13 all with", x.sum(1, 0), 63000000);
        due("P14 of like ones, -1 and 1", x.delay(false), -1);
        due("P14 SECOND", x.delay(true), 1);
        x.sample(B, 0, 1000);
        due("P14 one against at -1", x.delay(false), 1);
        due("P14 SECOND, then", x.delay(true), 3);
        // half of the sound at 0: 32000000 by 64 there
        for (int i = 0; i < 64; i++) {
            x.sample(A, i, 1000);
            x.sample(B, i, i < 16 ? -1000 : 1000);
        }
        due("P13 half", x.sum(0, 0), 32000000);
        due("P13 more than half", x.sum(16, 0), 48000000);
        due("P14 all of it", x.delay(false), 16);
        due("P14 next but one", x.delay(true), 14);
    }

    /** Terms 2: "the greatest", where all means are below 0. */
    private static void delayOfMeansBelow0() {
        NightWater x = new NightWater();
        for (int i = 0; i < 64; i++) {
            x.sample(A, i, 1000);
            x.sample(B, i, -1000);
        }
        due("P14 all alike below 0", x.delay(false), 0);
        x.sample(A, 0, 0);
        // A's first has a pair from d 0 on, where it counts the more, the fewer pairs there are
        due("P14 the least below 0", x.delay(false), 16);
        due("P14 the next but one", x.delay(true), 14);
    }

    /** Terms 2: "of like ones that of the least size". */
    private static void likeDelaysOfTheLeastSize() {
        NightWater x = allLost();
        x.sample(A, 30, 3);
        x.sample(B, 46, 5);
        due("P14 16 alone", x.delay(false), 16);
        x.sample(B, 15, 5);
        due("P14 15 is less than 16", x.delay(false), -15);
        x.sample(B, 44, 5);
        due("P14 14 is less than 15", x.delay(false), 14);
        x.sample(B, 31, 5);
        due("P14 1 is less", x.delay(false), 1);
        x.sample(B, 30, 5);
        due("P14 0 is least", x.delay(false), 0);
    }

    /** Terms 2: "then that below 0." */
    private static void likeDelaysBelow0() {
        for (int d = 1; d <= 16; d++) {
            NightWater x = new NightWater();
            x.sample(A, 30, 3);
            x.sample(B, 30 + d, 5);
            due("P14 above 0 alone, " + d, x.delay(false), d);
            x.sample(B, 30 - d, 5);
            due("P14 below 0, of both " + d, x.delay(false), -d);
            due("P14 SECOND of both " + d, x.delay(true), d);
            x.sample(B, 30 - d, 4);
            due("P14 above 0, if it is more, " + d, x.delay(false), d);
        }
        NightWater y = new NightWater();
        due("P14 no sound at all", y.delay(false), 0);
        due("P14 no sound at all, SECOND", y.delay(true), -2);
    }

    /** Terms 2: "SECOND: the same without THE DELAY and d one beside it." */
    private static void secondIsNotBeside() {
        NightWater x = new NightWater();
        x.sample(A, 30, 10);
        int[] heard = {1, 5, 9, 10, 8, 6, 2};
        for (int i = 0; i < heard.length; i++) {
            x.sample(B, 32 + i, heard[i]);
        }
        due("P14 10 at 5", x.delay(false), 5);
        due("P14 not 9 at 4 nor 8 at 6, but 6 at 7", x.delay(true), 7);
        x.sample(B, 37, 5);
        due("P14 5 at 3, a little less by its count, but 5 at 7", x.delay(true), 7);
        x.sample(B, 37, 4);
        due("P14 5 at 3", x.delay(true), 3);
        x.sample(B, 30, 9);
        due("P14 9 at 0", x.delay(true), 0);
        due("P14 THE DELAY is as before", x.delay(false), 5);
    }

    /** Terms 2: "d one beside it", where THE DELAY is the least or the greatest that there is. */
    private static void secondAtBothEnds() {
        NightWater x = allLost();
        x.sample(A, 30, 10);
        x.sample(B, 46, 10);
        x.sample(B, 45, 9);
        due("P14 16", x.delay(false), 16);
        due("P14 15 is beside it", x.delay(true), NO_DELAY);
        x.sample(B, 44, 8);
        due("P14 14 is not", x.delay(true), 14);
        x.sample(B, 14, 8);
        due("P14 -16 is not", x.delay(true), 14);
        x.sample(B, 14, 11);
        due("P14 -16 goes ahead", x.delay(false), -16);
        due("P14 16 is not beside it", x.delay(true), 16);
        x.sample(B, 15, 10);
        due("P14 -15 is", x.delay(true), 16);
        x.sample(B, 16, 10);
        due("P14 -14 is not, and of a lesser size", x.delay(true), -14);
    }

    /** Terms 2: "SECOND: the same": of like ones that of the least size, then that below 0. */
    private static void secondAsFirstOfLikeOnes() {
        NightWater x = allLost();
        x.sample(A, 30, 10);
        x.sample(B, 36, 10);
        for (int d : new int[] {-4, 4, 3}) {
            x.sample(B, 30 + d, 5);
        }
        due("P14 the first", x.delay(false), 6);
        due("P14 3 is less than 4", x.delay(true), 3);
        x.sample(B, 33, NOT);
        due("P14 -4 goes ahead of 4", x.delay(true), -4);
        x.sample(B, 26, NOT);
        due("P14 4 then", x.delay(true), 4);
    }

    /** Promise 14: "NONE - 100: there is none." */
    private static void noDelayAndNoSecond() {
        NightWater x = allLost();
        due("P14 none", x.delay(false), -101);
        due("P14 no SECOND", x.delay(true), -101);
        x.sample(A, 0, 5);
        x.sample(B, 17, 5);
        due("P14 one too far", x.delay(false), -101);
        x.sample(B, 16, -5);
        due("P14 one", x.delay(false), 16);
        due("P14 but no SECOND", x.delay(true), -101);
        x.sample(B, 15, -5);
        due("P14 one beside it", x.delay(false), 15);
        due("P14 no SECOND yet", x.delay(true), -101);
        x.sample(B, 14, -6);
        due("P14 the first stays", x.delay(false), 15);
        due("P14 beside it on both sides", x.delay(true), -101);
        x.sample(B, 13, -7);
        due("P14 a SECOND", x.delay(true), 13);
    }

    /** Terms 2: "each 0 at least". */
    private static void placeIs0AtLeast() {
        NightWater x = delayed(16);
        due("P14 THE DELAY", x.delay(false), 16);
        due("P15 just 0", x.place(160, 10, 10, 0), 0);
        due("P15 just 0", x.place(160, 10, 10, 1), 0);
        due("P15 1 above", x.place(161, 10, 10, 0), 1);
        due("P15 -1 is 0", x.place(159, 10, 10, 0), 0);
        due("P15 -1 is 0", x.place(159, 10, 10, 1), 0);
        due("P15 one above, one below: least", x.place(100, 6, 7, 0), 0);
        due("P15 one above, one below: greatest", x.place(100, 6, 7, 1), 4);
        due("P15 the shortest", x.place(1, 2000, 2000, 1), 0);
    }

    /** Terms 2: "twice the length at most". */
    private static void placeIsTwiceTheLengthAtMost() {
        NightWater x = delayed(-16);
        due("P14 THE DELAY", x.delay(false), -16);
        due("P15 just twice", x.place(160, 10, 10, 0), 320);
        due("P15 just twice", x.place(160, 10, 10, 1), 320);
        due("P15 1 below", x.place(161, 10, 10, 1), 321);
        due("P15 1 above is cut", x.place(159, 10, 10, 0), 318);
        due("P15 1 above is cut", x.place(159, 10, 10, 1), 318);
        due("P15 one below, one above: least", x.place(100, 6, 7, 0), 196);
        due("P15 one below, one above: greatest", x.place(100, 6, 7, 1), 200);
        due("P15 the shortest", x.place(1, 2000, 2000, 0), 2);
    }

    /** Terms 2: "twice it is the length less d times the speed", where d is 0. */
    private static void placeOfDelay0() {
        NightWater x = new NightWater();
        for (int what = 0; what <= 1; what++) {
            due("P15 the middle of the shortest", x.place(1, 1, 2000, what), 1);
            due("P15 the middle of the longest", x.place(100000, 1, 2000, what), 100000);
        }
    }

    /** Terms 2: "the least and the greatest of that over both speeds", for d above and below 0. */
    private static void placeOverBothSpeeds() {
        NightWater x = delayed(3);
        due("P15 least by the faster", x.place(1000, 10, 20, 0), 940);
        due("P15 greatest by the slower", x.place(1000, 10, 20, 1), 970);
        due("P15 s is t, least", x.place(1000, 20, 20, 0), 940);
        due("P15 s is t, greatest", x.place(1000, 20, 20, 1), 940);
        NightWater y = delayed(-3);
        due("P15 least by the slower", y.place(1000, 10, 20, 0), 1030);
        due("P15 greatest by the faster", y.place(1000, 10, 20, 1), 1060);
    }

    /** Terms 2: "a length (1 .. 100000) and speeds .. (1 .. 2000", all at their greatest. */
    private static void placeAtItsGreatest() {
        NightWater x = delayed(16);
        due("P15 least", x.place(100000, 1, 2000, 0), 68000);
        due("P15 greatest", x.place(100000, 1, 2000, 1), 99984);
        due("P15 just 0", x.place(32000, 2000, 2000, 0), 0);
        due("P15 just above", x.place(32001, 2000, 2000, 0), 1);
        NightWater y = delayed(-16);
        due("P15 least below 0", y.place(100000, 1, 2000, 0), 100016);
        due("P15 greatest below 0", y.place(100000, 1, 2000, 1), 132000);
        due("P15 just twice", y.place(32000, 2000, 2000, 1), 64000);
    }

    /** Terms 2: "(for THE DELAY)": not for SECOND. */
    private static void placeIsOfTheFirstDelay() {
        NightWater x = delayed(4);
        x.sample(B, 24, 9);
        due("P14 SECOND is -6", x.delay(true), -6);
        due("P15 by 4", x.place(100, 1, 1, 0), 96);
        x.sample(B, 24, 11);
        due("P14 SECOND is 4 now", x.delay(true), 4);
        due("P15 by -6", x.place(100, 1, 1, 0), 106);
    }

    /** Promise 15: "NO: there is no DELAY."; Terms, "the first of: BAD .. NO". */
    private static void placeWithoutDelay() {
        NightWater x = allLost();
        for (int what = 0; what <= 1; what++) {
            int asked = what;
            CHECKS.refused(x, "P15 no DELAY", () -> x.place(100, 1, 2, asked), NO);
            CHECKS.refused(x, "P15 BAD length first", () -> x.place(0, 1, 2, asked), BAD);
            CHECKS.refused(x, "P15 BAD s first", () -> x.place(100, 0, 2, asked), BAD);
            CHECKS.refused(x, "P15 BAD t first", () -> x.place(100, 1, 2001, asked), BAD);
        }
        CHECKS.refused(x, "P15 BAD what first", () -> x.place(100, 1, 2, 2), BAD);
        CHECKS.refused(x, "P15 BAD what below first", () -> x.place(100, 1, 2, -1), BAD);
        x.sample(A, 63, 0);
        x.sample(B, 47, 0);
        due("P15 a DELAY of one pair", x.place(100, 1, 2, 0), 116);
    }

    /** Promise 15: "BAD", and "from s to t": speeds that go down are not as told. */
    private static void placeOfWrongNumbers() {
        NightWater x = delayed(3);
        CHECKS.refused(x, "P15 length 0", () -> x.place(0, 1, 2, 0), BAD);
        CHECKS.refused(x, "P15 length 100001", () -> x.place(100001, 1, 2, 0), BAD);
        CHECKS.refused(x, "P15 s 0", () -> x.place(100, 0, 2, 0), BAD);
        CHECKS.refused(x, "P15 t 2001", () -> x.place(100, 1, 2001, 0), BAD);
        CHECKS.refused(x, "P15 both 0", () -> x.place(100, 0, 0, 0), BAD);
        CHECKS.refused(x, "P15 both 2001", () -> x.place(100, 2001, 2001, 0), BAD);
        CHECKS.refused(x, "P15 from 3 to 2", () -> x.place(100, 3, 2, 0), BAD);
        due("P15 from 3 to 3", x.place(100, 3, 3, 0), 91);
        due("P15 from 3 to 4", x.place(100, 3, 4, 0), 88);
    }
}
