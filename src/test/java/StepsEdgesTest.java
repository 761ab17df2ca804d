/** Terms 3 and promises 16 to 19: each sentence that names a boundary case has a test of its own. */
public final class StepsEdgesTest {
    private static final int NONE = NightWater.NONE;
    private static final int BAD = NightWater.BAD;
    private static final Checks CHECKS = new Checks("StepsEdgesTest");

    public static void main(String[] args) {
        sectionsAre1To12();
        sectionIsOneOfN();
        weightsGoFrom0To1000();
        sectionsFromNOnAreNone();
        sectionsThatComeHaveWeight0();
        whatItWasOfOneThatComes();
        refusedSectionLeavesAll();
        costOfTheOneAtFirst();
        costOfOneSectionIs0();
        costOfTwo();
        costAtTheGreatestWeights();
        costOfNoWeight();
        costIsOfThoseThereAre();
        costFromAToB();
        costCountsAPartOfTheLine();
        closesIsNoneWhereAIsB();
        closesAtTheFirstAndTheLastPlace();
        closesByTheFirstKOfLikeOnes();
        closesWrongNumbers();
        closingsOfTheOneAtFirst();
        closingsOfTwo();
        closingsAtTheirMost();
        closingsByTheFirstKOfLikeOnes();
        closingsWrongNumbers();
        closingsAddUpToTheCost();
        plansFollowTheWeights();
        CHECKS.finish();
    }

    private static void due(String call, long got, long want) {
        CHECKS.due(call, got, want);
    }

    private static NightWater line(int... weights) {
        NightWater x = new NightWater();
        for (int i = 0; i < weights.length; i++) {
            x.section(weights.length, i, weights[i]);
        }
        return x;
    }

    private static NightWater likeOnes(int n, int weight) {
        int[] weights = new int[n];
        java.util.Arrays.fill(weights, weight);
        return line(weights);
    }

    /** Terms 3: "SECTIONS 0 .. n - 1 (n 1 .. 12)". */
    private static void sectionsAre1To12() {
        NightWater x = line(5);
        CHECKS.refused(x, "P16 n 0", () -> x.section(0, 0, 1), BAD);
        CHECKS.refused(x, "P16 n -1", () -> x.section(-1, 0, 1), BAD);
        CHECKS.refused(x, "P16 n 13", () -> x.section(13, 0, 1), BAD);
        CHECKS.refused(x, "P16 n 13, its last", () -> x.section(13, 12, 1), BAD);
        due("P25 one as before", x.count(2), 1);
        due("P16 n 12", x.section(12, 0, 6), 5);
        due("P25 twelve", x.count(2), 12);
        due("P16 n 1", x.section(1, 0, 7), 6);
        due("P25 one", x.count(2), 1);
    }

    /** Promise 16: "SECTION i's WEIGHT, of n": i is below the n told, not below that of before. */
    private static void sectionIsOneOfN() {
        for (int n = 1; n <= 12; n++) {
            int told = n;
            NightWater x = line(1, 2, 3, 4, 5, 6);
            CHECKS.refused(x, "P16 i -1", () -> x.section(told, -1, 1), BAD);
            CHECKS.refused(x, "P16 i is n", () -> x.section(told, told, 1), BAD);
            due("P16 the last", x.section(n, n - 1, 9), n <= 6 ? n : 0);
            due("P16 it holds", x.section(n, n - 1, 9), 9);
            due("P16 the first", x.section(n, 0, 9), n == 1 ? 9 : 1);
        }
    }

    /** Terms 3: "WEIGHTS (0 .. 1000)". */
    private static void weightsGoFrom0To1000() {
        NightWater x = line(3, 4);
        CHECKS.refused(x, "P16 WEIGHT -1", () -> x.section(2, 1, -1), BAD);
        CHECKS.refused(x, "P16 WEIGHT 1001", () -> x.section(2, 1, 1001), BAD);
        due("P16 WEIGHT 1000", x.section(2, 1, 1000), 4);
        due("P17 it counts", x.cost(0, 1), 1003);
        due("P16 WEIGHT 0", x.section(2, 1, 0), 1000);
        due("P17 it counts nothing", x.cost(0, 1), 3);
        due("P16 it was 0", x.section(2, 1, 5), 0);
    }

    /** Promise 16: "(SECTIONS from n on are none then". */
    private static void sectionsFromNOnAreNone() {
        NightWater x = line(1, 2, 3, 4);
        due("P16 three of four", x.section(3, 0, 9), 1);
        due("P25 three", x.count(2), 3);
        due("P17 the last there is", x.cost(2, 2), 0);
        CHECKS.refused(x, "P17 the one that went", () -> x.cost(3, 3), BAD);
        CHECKS.refused(x, "P18 the one that went", () -> x.closes(0, 3), BAD);
        CHECKS.refused(x, "P19 the one that went", () -> x.closings(3), BAD);
        due("P17 those that stay", x.cost(0, 2), 14 + 5);
        due("P26 as if it had not been", x.digest(), line(9, 2, 3).digest());
    }

    /** Promise 16: "those that come have WEIGHT 0", also where SECTIONS with a WEIGHT had gone. */
    private static void sectionsThatComeHaveWeight0() {
        NightWater x = line(1, 2, 3, 4, 5);
        x.section(2, 1, 8);
        x.section(5, 0, 7);
        due("P26 2 .. 4 have WEIGHT 0", x.digest(), line(7, 8, 0, 0, 0).digest());
        due("P17 2 .. 4 cost nothing", x.cost(2, 4), 0);
        for (int i = 2; i < 5; i++) {
            due("P16 they were 0", x.section(5, i, 1), 0);
        }
        x.section(1, 0, 0);
        x.section(12, 11, 1000);
        due("P26 all that come", x.digest(), line(0, 0, 0, 0, 0, 0, 0, 0, 0, 0, 0, 1000).digest());
    }

    /** Promise 16: "what it was (0 of one that comes)". */
    private static void whatItWasOfOneThatComes() {
        NightWater x = line(1, 2, 3);
        due("P16 one that comes", x.section(4, 3, 9), 0);
        due("P16 one that came", x.section(4, 3, 8), 9);
        due("P16 it goes with another", x.section(3, 2, 7), 3);
        due("P16 it comes again", x.section(4, 3, 6), 0);
        due("P16 far beyond those there are", x.section(12, 11, 5), 0);
        due("P16 between", x.section(12, 7, 4), 0);
        due("P16 one that was there", x.section(12, 2, 4), 7);
    }

    /** Promise 16: "BAD."; "Refused, changing nothing": no SECTION goes or comes. */
    private static void refusedSectionLeavesAll() {
        NightWater x = line(1, 2, 3, 9);
        CHECKS.refused(x, "P16 fewer, wrong WEIGHT", () -> x.section(2, 0, 1001), BAD);
        CHECKS.refused(x, "P16 more, wrong WEIGHT", () -> x.section(9, 0, -1), BAD);
        CHECKS.refused(x, "P16 fewer, wrong i", () -> x.section(2, 2, 5), BAD);
        CHECKS.refused(x, "P16 more, wrong i", () -> x.section(9, 9, 5), BAD);
        due("P25 four", x.count(2), 4);
        due("P17 the same plan", x.cost(0, 3), 24);
        due("P16 the same WEIGHT", x.section(4, 3, 9), 9);
    }

    /** Promise 17: "(of those there are: one, WEIGHT 0, at first)". */
    private static void costOfTheOneAtFirst() {
        NightWater x = new NightWater();
        due("P17 the one", x.cost(0, 0), 0);
        CHECKS.refused(x, "P17 no second", () -> x.cost(0, 1), BAD);
        CHECKS.refused(x, "P17 the second alone", () -> x.cost(1, 1), BAD);
        due("P16 WEIGHT 0", x.section(1, 0, 0), 0);
    }

    /** Terms 3: "Closing at k (1 .. n - 1)": one SECTION needs none, whatever its WEIGHT. */
    private static void costOfOneSectionIs0() {
        NightWater x = line(1000);
        due("P17 of one", x.cost(0, 0), 0);
        NightWater y = line(1000, 999, 998);
        for (int i = 0; i < 3; i++) {
            due("P17 of one of three", y.cost(i, i), 0);
        }
    }

    /** Terms 3: "the sum over SECTIONS of WEIGHT times how many closings tell it", of two. */
    private static void costOfTwo() {
        due("P17 one closing", line(3, 4).cost(0, 1), 7);
        due("P17 of the greatest", line(1000, 1000).cost(0, 1), 2000);
        due("P17 of the least", line(0, 1).cost(0, 1), 1);
    }

    /** Terms 3: THE COST where n and all WEIGHTS are at their greatest. */
    private static void costAtTheGreatestWeights() {
        // four of twelve by three closings, eight by four
        due("P17 twelve", likeOnes(12, 1000).cost(0, 11), 44000);
        due("P17 eleven", likeOnes(11, 1000).cost(0, 10), 39000);
        due("P17 eight", likeOnes(8, 1000).cost(0, 7), 24000);
        due("P17 the last eight of twelve", likeOnes(12, 1000).cost(4, 11), 24000);
    }

    /** Terms 3: "WEIGHTS (0 ..": THE COST where none weighs. */
    private static void costOfNoWeight() {
        NightWater x = likeOnes(12, 0);
        due("P17 nothing", x.cost(0, 11), 0);
        x.section(12, 11, 1);
        due("P17 the last alone", x.cost(0, 11), 1);
        x.section(12, 6, 1);
        // one that is no end of the line is told by two closings at least
        due("P17 one within, too", x.cost(0, 11), 4);
    }

    /** Promise 17: "SECTIONS a .. b (of those there are". */
    private static void costIsOfThoseThereAre() {
        for (int n = 1; n <= 12; n++) {
            NightWater x = likeOnes(n, 1);
            int last = n - 1;
            CHECKS.holds("P17 up to the last", x.cost(0, last) >= 0);
            due("P17 the last", x.cost(last, last), 0);
            CHECKS.refused(x, "P17 beyond", () -> x.cost(0, last + 1), BAD);
            CHECKS.refused(x, "P17 from beyond", () -> x.cost(last + 1, last + 1), BAD);
            CHECKS.refused(x, "P17 from before", () -> x.cost(-1, last), BAD);
            CHECKS.refused(x, "P17 all before", () -> x.cost(-1, -1), BAD);
        }
    }

    /** Promise 17: "SECTIONS a .. b": there are none where a is above b. */
    private static void costFromAToB() {
        NightWater x = line(1, 2, 3);
        CHECKS.refused(x, "P17 from 2 to 1", () -> x.cost(2, 1), BAD);
        CHECKS.refused(x, "P17 from 1 to 0", () -> x.cost(1, 0), BAD);
        CHECKS.refused(x, "P17 from 2 to 0", () -> x.cost(2, 0), BAD);
        due("P17 from 1 to 1", x.cost(1, 1), 0);
        due("P17 from 1 to 2", x.cost(1, 2), 5);
    }

    /** Promise 17: "for SECTIONS a .. b": what lies beside them counts nothing. */
    private static void costCountsAPartOfTheLine() {
        NightWater x = line(1000, 1, 2, 3, 1000);
        due("P17 1 .. 3", x.cost(1, 3), 9);
        due("P17 0 .. 1", x.cost(0, 1), 1001);
        due("P17 3 .. 4", x.cost(3, 4), 1003);
    }

    /** Promise 18: "NONE: a is b." */
    private static void closesIsNoneWhereAIsB() {
        for (int n = 1; n <= 12; n++) {
            NightWater x = likeOnes(n, 1000);
            for (int i = 0; i < n; i++) {
                due("P18 a is b", x.closes(i, i), NONE);
            }
        }
    }

    /** Terms 3: "Closing at k (1 .. n - 1)": the first and the last there are. */
    private static void closesAtTheFirstAndTheLastPlace() {
        due("P18 of two", line(0, 0).closes(0, 1), 1);
        due("P18 the first", line(9, 1, 1).closes(0, 2), 1);
        due("P18 the last", line(1, 1, 9).closes(0, 2), 2);
        NightWater x = line(0, 0, 0, 0, 0, 0, 0, 0, 0, 0, 0, 1000);
        due("P18 the last of twelve", x.closes(0, 11), 11);
        due("P18 the last of a part", x.closes(5, 11), 11);
        due("P18 the first of a part", x.closes(5, 10), 6);
        NightWater y = line(1000, 0, 0, 0, 0, 0, 0, 0, 0, 0, 0, 0);
        due("P18 the first of twelve", y.closes(0, 11), 1);
    }

    /** Terms 3: "the least COST, by the first k as is least that may begin it." */
    private static void closesByTheFirstKOfLikeOnes() {
        due("P18 1 or 2", line(1, 1, 1).closes(0, 2), 1);
        due("P18 2 or 3", line(1, 1, 1, 1, 1).closes(0, 4), 2);
        due("P18 2, 3 or 4", likeOnes(6, 5).closes(0, 5), 2);
        due("P18 4 alone", likeOnes(8, 5).closes(0, 7), 4);
        due("P18 4 .. 8", likeOnes(12, 1000).closes(0, 11), 4);
        due("P18 any", likeOnes(12, 0).closes(0, 11), 1);
        due("P18 any of a part", likeOnes(12, 0).closes(3, 9), 4);
        due("P18 what weighs goes ahead of the least k", line(1, 1, 2).closes(0, 2), 2);
    }

    /** Promise 18: "BAD." */
    private static void closesWrongNumbers() {
        NightWater x = line(1, 2, 3);
        CHECKS.refused(x, "P18 from -1", () -> x.closes(-1, 1), BAD);
        CHECKS.refused(x, "P18 to 3", () -> x.closes(1, 3), BAD);
        CHECKS.refused(x, "P18 from 2 to 1", () -> x.closes(2, 1), BAD);
        CHECKS.refused(x, "P18 3 and 3, not NONE", () -> x.closes(3, 3), BAD);
        CHECKS.refused(x, "P18 -1 and -1, not NONE", () -> x.closes(-1, -1), BAD);
        due("P18 good numbers", x.closes(1, 2), 2);
    }

    /** Promise 19, of the one SECTION at first: nothing is to be told. */
    private static void closingsOfTheOneAtFirst() {
        NightWater x = new NightWater();
        due("P19 of one", x.closings(0), 0);
        CHECKS.refused(x, "P19 no second", () -> x.closings(1), BAD);
        CHECKS.refused(x, "P19 none before", () -> x.closings(-1), BAD);
    }

    /** Terms 3: "tells whether it lies in SECTIONS below k, or not": one closing tells both of two. */
    private static void closingsOfTwo() {
        NightWater x = line(0, 7);
        due("P19 below", x.closings(0), 1);
        due("P19 not below", x.closings(1), 1);
    }

    /** Promise 19, where a plan is a chain: n - 1 closings, and no more. */
    private static void closingsAtTheirMost() {
        NightWater x = likeOnes(12, 0);
        for (int i = 0; i < 11; i++) {
            due("P19 by the first k, " + i, x.closings(i), i + 1);
        }
        due("P19 the last goes with the one before it", x.closings(11), 11);
        NightWater y = line(1, 1, 2, 4, 8, 16, 32, 64, 128, 256, 512, 1000);
        due("P19 the lightest", y.closings(0), 11);
        due("P19 the next", y.closings(1), 11);
        due("P19 the heaviest", y.closings(11), 1);
    }

    /** Terms 3: "by the first k as is least": within the parts of a plan, too. */
    private static void closingsByTheFirstKOfLikeOnes() {
        NightWater x = line(1, 1, 1);
        due("P19 told first", x.closings(0), 1);
        due("P19 told next", x.closings(1), 2);
        due("P19 told next", x.closings(2), 2);
        NightWater y = likeOnes(6, 1);
        // 2 and 4 of them cost 2 + 8, 3 and 3 cost 5 + 5: it closes at 2, then amid the four
        int[] want = {2, 2, 3, 3, 3, 3};
        for (int i = 0; i < 6; i++) {
            due("P19 of six, " + i, y.closings(i), want[i]);
        }
    }

    /** Promise 19: "BAD." */
    private static void closingsWrongNumbers() {
        for (int n = 1; n <= 12; n++) {
            int beyond = n;
            NightWater x = likeOnes(n, 3);
            CHECKS.refused(x, "P19 beyond the last", () -> x.closings(beyond), BAD);
            CHECKS.refused(x, "P19 before the first", () -> x.closings(-1), BAD);
            CHECKS.holds("P19 the last", x.closings(n - 1) >= 0);
        }
    }

    /** Promises 17 and 19 tell of one plan. */
    private static void closingsAddUpToTheCost() {
        int[] weights = {1000, 0, 3, 3, 500, 1, 0, 0, 1000, 7, 7, 999};
        NightWater x = line(weights);
        int cost = 0;
        for (int i = 0; i < 12; i++) {
            cost += weights[i] * x.closings(i);
        }
        due("P19 what the plan costs", cost, x.cost(0, 11));
    }

    /** Promises 16 to 19: a plan is that of the WEIGHTS of now. */
    private static void plansFollowTheWeights() {
        NightWater x = line(1, 1, 1, 1);
        due("P18 in the midst", x.closes(0, 3), 2);
        x.section(4, 0, 1000);
        due("P18 the heavy one first", x.closes(0, 3), 1);
        due("P17 its cost", x.cost(0, 3), 1003 + 5);
        x.section(4, 0, 1);
        due("P18 in the midst again", x.closes(0, 3), 2);
        due("P17 its cost again", x.cost(0, 3), 8);
        x.section(3, 2, 1);
        due("P17 of three", x.cost(0, 2), 5);
        x.section(4, 3, 0);
        due("P17 of four, one without WEIGHT", x.cost(0, 3), 6);
    }
}
