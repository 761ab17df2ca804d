/** Promises 16 to 19: sections, the cost of plans, where they close, how many closings. */
public final class StepsTest {
    private static final Checks CHECKS = new Checks("StepsTest");

    public static void main(String[] args) {
        section();
        sectionRefused();
        cost();
        costOfOne();
        costRefused();
        closes();
        closesFirstOfLikeOnes();
        closings();
        greatest();
        CHECKS.finish();
    }

    private static void due(String call, long got, long want) {
        CHECKS.due(call, got, want);
    }

    private static NightWater line(int... weights) {
        NightWater x = new NightWater();
        for (int i = 0; i < weights.length; i++) {
            x.section(weights.length, i, weights[i]);
        }
        return x;
    }

    private static void section() {
        NightWater x = new NightWater();
        due("the one at first", x.section(1, 0, 1000), 0);
        due("what it was", x.section(1, 0, 7), 1000);
        due("one that comes", x.section(12, 11, 5), 0);
        due("twelve", x.count(2), 12);
        due("the first stays", x.section(12, 0, 8), 7);
        due("one between", x.section(12, 5, 0), 0);
        due("what came", x.section(12, 11, 6), 5);
        due("fewer", x.section(6, 0, 9), 8);
        due("six", x.count(2), 6);
        due("more again come with 0", x.section(12, 11, 1), 0);
        due("those that stayed", x.section(12, 0, 1), 9);
        x.section(3, 2, 77);
        due("the last goes, another is set", x.section(2, 0, 5), 1);
        due("it came with 0", x.section(3, 0, 5), 5);
        due("it came with 0", x.section(3, 2, 5), 0);
    }

    private static void sectionRefused() {
        NightWater x = line(3, 1, 4, 1, 5);
        CHECKS.refused(x, "n 0", () -> x.section(0, 0, 1), -2);
        CHECKS.refused(x, "n 13", () -> x.section(13, 0, 1), -2);
        CHECKS.refused(x, "i -1", () -> x.section(5, -1, 1), -2);
        CHECKS.refused(x, "i n", () -> x.section(5, 5, 1), -2);
        CHECKS.refused(x, "i n, fewer", () -> x.section(2, 2, 1), -2);
        CHECKS.refused(x, "weight -1", () -> x.section(5, 0, -1), -2);
        CHECKS.refused(x, "weight 1001", () -> x.section(5, 0, 1001), -2);
        CHECKS.refused(x, "n least", () -> x.section(Integer.MIN_VALUE, 0, 1), -2);
        due("five as before", x.count(2), 5);
        due("the cost as before", x.cost(0, 4), 32);
    }

    private static void cost() {
        NightWater x = line(1, 2, 3, 9);
        due("all", x.cost(0, 3), 24);
        due("0 .. 2", x.cost(0, 2), 9);
        due("1 .. 3", x.cost(1, 3), 14 + 5);
        due("0 .. 1", x.cost(0, 1), 3);
        due("2 .. 3", x.cost(2, 3), 12);
        due("one", x.cost(1, 1), 0);
        // greedy halves are not the least: 1 by 1 from the heavy end is
        due("four like ones", line(1, 1, 1, 1).cost(0, 3), 8);
        due("a heavy one between", line(1, 9, 1).cost(0, 2), 11 + 10);
        due("0 weights", line(0, 0, 0).cost(0, 2), 0);
        due("0 5 0", line(0, 5, 0).cost(0, 2), 10);
    }

    private static void costOfOne() {
        NightWater x = new NightWater();
        due("at first", x.cost(0, 0), 0);
        due("at first closes", x.closes(0, 0), -1);
        due("at first closings", x.closings(0), 0);
        CHECKS.refused(x, "no second", () -> x.cost(0, 1), -2);
        x.section(1, 0, 1000);
        due("one that weighs", x.cost(0, 0), 0);
    }

    private static void costRefused() {
        NightWater x = line(1, 2, 3);
        CHECKS.refused(x, "cost -1", () -> x.cost(-1, 1), -2);
        CHECKS.refused(x, "cost to 3", () -> x.cost(0, 3), -2);
        CHECKS.refused(x, "cost from 3", () -> x.cost(3, 3), -2);
        CHECKS.refused(x, "cost back", () -> x.cost(1, 0), -2);
        CHECKS.refused(x, "closes -1", () -> x.closes(-1, 1), -2);
        CHECKS.refused(x, "closes -1 -1", () -> x.closes(-1, -1), -2);
        CHECKS.refused(x, "closes to 3", () -> x.closes(0, 3), -2);
        CHECKS.refused(x, "closes from 3", () -> x.closes(3, 3), -2);
        CHECKS.refused(x, "closes back", () -> x.closes(2, 1), -2);
        CHECKS.refused(x, "closings -1", () -> x.closings(-1), -2);
        CHECKS.refused(x, "closings 3", () -> x.closings(3), -2);
        x.section(2, 0, 1);
        CHECKS.refused(x, "closings of one gone", () -> x.closings(2), -2);
        CHECKS.refused(x, "cost of one gone", () -> x.cost(2, 2), -2);
    }

    private static void closes() {
        NightWater x = line(1, 2, 3, 9);
        due("all", x.closes(0, 3), 3);
        due("0 .. 2", x.closes(0, 2), 2);
        due("1 .. 3", x.closes(1, 3), 3);
        due("0 .. 1", x.closes(0, 1), 1);
        due("2 .. 3", x.closes(2, 3), 3);
        due("one", x.closes(2, 2), -1);
        NightWater y = line(9, 3, 2, 1);
        due("the other way", y.closes(0, 3), 1);
        due("the other way on", y.closes(1, 3), 2);
    }

    private static void closesFirstOfLikeOnes() {
        due("1 1 1", line(1, 1, 1).closes(0, 2), 1);
        due("0 0 0 0", line(0, 0, 0, 0).closes(0, 3), 1);
        due("0 0 0 0 on", line(0, 0, 0, 0).closes(1, 3), 2);
        due("1 1 1 1", line(1, 1, 1, 1).closes(0, 3), 2);
        due("1 1 1 1 1", line(1, 1, 1, 1, 1).closes(0, 4), 2);
        due("1 1 1 as good by 1 as by 2", line(1, 1, 1).cost(0, 2), 5);
    }

    private static void closings() {
        NightWater x = line(1, 2, 3, 9);
        due("0", x.closings(0), 3);
        due("1", x.closings(1), 3);
        due("2", x.closings(2), 2);
        due("3", x.closings(3), 1);
        NightWater y = line(0, 0, 0, 0);
        due("like ones go by the first k, 0", y.closings(0), 1);
        due("like ones go by the first k, 1", y.closings(1), 2);
        due("like ones go by the first k, 2", y.closings(2), 3);
        due("like ones go by the first k, 3", y.closings(3), 3);
        y.section(2, 0, 1);
        due("of two", y.closings(1), 1);
    }

    private static void greatest() {
        int[] weights = new int[12];
        java.util.Arrays.fill(weights, 1000);
        NightWater x = line(weights);
        // twelve like ones: four by 3 closings, eight by 4
        due("the greatest cost", x.cost(0, 11), 44000);
        due("its first closing", x.closes(0, 11), 4);
        int sum = 0;
        for (int i = 0; i < 12; i++) {
            sum += x.closings(i) * 1000;
        }
        due("closings tell the cost", sum, 44000);
        NightWater y = new NightWater();
        y.section(12, 0, 0);
        due("twelve of no weight", y.closings(11), 11);
    }
}
