/** Promises 1 to 10: a new object, zones, rules, readings, lows, leaks, valves, groups. */
public final class ZonesTest {
    private static final Checks CHECKS = new Checks("ZonesTest");

    public static void main(String[] args) {
        newObject();
        zone();
        rules();
        read();
        low();
        lowOfLikeHours();
        lowOfLostHours();
        lowIsNot();
        leaks();
        leaksByRules();
        valve();
        group();
        explains();
        explainsSumsAndUntold();
        fewest();
        fewestOfLikeManyIsLeastNumber();
        fewestOfAllValves();
        refusals();
        CHECKS.finish();
    }

    private static void due(String call, long got, long want) {
        CHECKS.due(call, got, want);
    }

    /** A zone whose greatest LEAK is just the one wanted, meters being exact. */
    private static void zoneLeaking(NightWater x, int leak) {
        int zone = x.zone(0, leak < 0 ? -leak : 0);
        for (int hour = 1; hour <= 4; hour++) {
            x.read(zone, hour, true, Math.max(leak, 0));
        }
    }

    private static void zoneUntold(NightWater x) {
        int zone = x.zone(0, 0);
        for (int hour = 1; hour <= 4; hour++) {
            x.read(zone, hour, hour % 2 == 0, NightWater.NONE);
        }
    }

    private static NightWater exact() {
        NightWater x = new NightWater();
        x.rules(0, 0);
        return x;
    }

    private static void newObject() {
        NightWater x = new NightWater();
        due("new count(0)", x.count(0), 0);
        due("new count(1)", x.count(1), 0);
        due("new count(2)", x.count(2), 1);
        due("new count(3)", x.count(3), 0);
        due("new count(4)", x.count(4), 0);
        due("new count(5)", x.count(5), 0);
        due("new fewest", x.fewest(), 0);
        due("new explains(0)", x.explains(0), 1);
        due("new delay", x.delay(false), 0);
        due("new cost", x.cost(0, 0), 0);
        due("new lost", x.lost(), 0);
        due("new order", x.order(0), -1);
        due("new low", x.low(0, 0), NightWater.NOT);
        x.zone(10, 3);
        due("first reading in", x.read(0, 0, true, 1000), 0);
        due("first reading out", x.read(0, 23, false, 0), 0);
        x.read(0, 1, true, 1000);
        x.read(0, 2, true, 1000);
        x.read(0, 3, true, 1000);
        x.read(0, 4, true, 1000);
        due("e is 20 at first, least", x.low(0, 0), 980);
        due("e is 20 at first, greatest", x.low(0, 1), 1020);
        due("u is 2 at first", x.leaks(0, 0), 980 - 3 - 20);
    }

    private static void zone() {
        NightWater x = new NightWater();
        due("zone least", x.zone(0, 0), 0);
        due("zone greatest", x.zone(5000, 5000), 1);
        for (int number = 2; number < 8; number++) {
            CHECKS.refused(x, "zone BAD customers", () -> x.zone(-1, 0), -2);
            due("zone " + number, x.zone(number, number), number);
        }
        due("eight zones", x.count(0), 8);
        CHECKS.refused(x, "ninth zone", () -> x.zone(1, 1), -4);
        CHECKS.refused(x, "BAD goes ahead of FULL", () -> x.zone(5001, 1), -2);
        CHECKS.refused(x, "BAD big goes ahead of FULL", () -> x.zone(1, 5001), -2);
    }

    private static void rules() {
        NightWater x = new NightWater();
        x.zone(100, 0);
        for (int hour = 1; hour <= 4; hour++) {
            x.read(0, hour, true, 999);
            x.read(0, hour, false, 501);
        }
        due("rules least", x.rules(0, 0), 1);
        due("exact least", x.leaks(0, 0), 498);
        due("exact greatest", x.leaks(0, 1), 498);
        due("rules greatest", x.rules(200, 20), 1);
        // in 799.2 .. 1198.8, out 400.8 .. 601.2
        due("e 200 least", x.low(0, 0), 799 - 602);
        due("e 200 greatest", x.low(0, 1), 1199 - 400);
        due("u 20 least", x.leaks(0, 0), 799 - 602 - 2000);
        due("u 20 greatest", x.leaks(0, 1), 1199 - 400);
        x.rules(1, 0);
        x.read(0, 2, true, 1);
        x.read(0, 2, false, 0);
        due("1.001 is cut up", x.low(0, 1), 2);
        due("0.999 is cut", x.low(0, 0), 0);
        x.rules(200, 20);
        x.read(0, 2, true, 999);
        x.read(0, 2, false, 501);
        CHECKS.refused(x, "rules e -1", () -> x.rules(-1, 2), -2);
        CHECKS.refused(x, "rules e 201", () -> x.rules(201, 2), -2);
        CHECKS.refused(x, "rules u -1", () -> x.rules(20, -1), -2);
        CHECKS.refused(x, "rules u 21", () -> x.rules(20, 21), -2);
        due("refused rules change nothing", x.leaks(0, 0), 799 - 602 - 2000);
    }

    private static void read() {
        NightWater x = new NightWater();
        x.zone(0, 0);
        x.zone(0, 0);
        due("read in", x.read(0, 0, true, 20000), 0);
        due("read in again", x.read(0, 0, true, 5), 20000);
        due("out is not in", x.read(0, 0, false, 7), 0);
        due("other zone", x.read(1, 0, true, 8), 0);
        due("other hour", x.read(0, 23, true, 9), 0);
        due("lost", x.read(0, 0, true, -1), 5);
        due("one reading is LOST", x.count(4), 1);
        due("was lost", x.read(0, 0, true, 0), -1);
        due("none is LOST", x.count(4), 0);
        due("what stood", x.read(0, 23, true, 1), 9);
        due("what stood out", x.read(0, 0, false, 1), 7);
    }

    private static void low() {
        NightWater x = new NightWater();
        x.zone(0, 0);
        int[] in = {0, 100, 90, 95, 200, 0};
        int[] out = {0, 20, 20, 20, 0, 300};
        for (int hour = 0; hour <= 5; hour++) {
            x.read(0, hour, true, in[hour]);
            x.read(0, hour, false, out[hour]);
        }
        // hour 2: in 88.2 .. 91.8, out 19.6 .. 20.4; hours 0 and 5 are no night hours
        due("low least", x.low(0, 0), 88 - 21);
        due("low greatest", x.low(0, 1), 92 - 19);
        due("low hour", x.low(0, 2), 2);
        x.read(0, 4, true, 0);
        due("hour 4 counts", x.low(0, 2), 4);
        x.read(0, 1, false, 20000);
        due("hour 1 counts", x.low(0, 2), 1);
        due("a low below 0, greatest", x.low(0, 1), 102 - 19600);
        due("a low below 0, least", x.low(0, 0), 98 - 20400);
    }

    private static void lowOfLikeHours() {
        NightWater x = new NightWater();
        x.zone(0, 0);
        for (int hour = 1; hour <= 4; hour++) {
            x.read(0, hour, true, 20000);
        }
        x.read(0, 3, true, 98);
        x.read(0, 3, false, 50);
        x.read(0, 2, true, 50);
        // both have the greatest 51: hour 2 with the least 49, hour 3 with 45
        due("like hours, the first", x.low(0, 2), 2);
        due("like hours, its least", x.low(0, 0), 49);
        due("like hours, greatest", x.low(0, 1), 51);
    }

    private static void lowOfLostHours() {
        NightWater x = exact();
        x.zone(0, 0);
        for (int hour = 1; hour <= 4; hour++) {
            x.read(0, hour, true, hour * 10);
        }
        x.read(0, 1, true, -1);
        due("in lost", x.low(0, 1), 20);
        x.read(0, 2, false, -1);
        due("out lost", x.low(0, 1), 30);
        x.read(0, 3, false, -1);
        x.read(0, 3, true, -1);
        due("both lost", x.low(0, 2), 4);
        x.read(0, 4, true, -1);
        for (int what = 0; what <= 2; what++) {
            due("no low " + what, x.low(0, what), NightWater.NOT);
        }
        due("no leak", x.leaks(0, 0), NightWater.NOT);
        due("no leak", x.leaks(0, 1), NightWater.NOT);
        x.read(0, 2, false, 0);
        due("told again", x.low(0, 2), 2);
    }

    private static void lowIsNot() {
        NightWater x = new NightWater();
        x.zone(0, 0);
        CHECKS.refused(x, "low zone -1", () -> x.low(-1, 0), NightWater.NOT);
        CHECKS.refused(x, "low zone 1", () -> x.low(1, 0), NightWater.NOT);
        CHECKS.refused(x, "low what -1", () -> x.low(0, -1), NightWater.NOT);
        CHECKS.refused(x, "low what 3", () -> x.low(0, 3), NightWater.NOT);
        CHECKS.refused(x, "leaks zone -1", () -> x.leaks(-1, 0), NightWater.NOT);
        CHECKS.refused(x, "leaks zone 1", () -> x.leaks(1, 0), NightWater.NOT);
        CHECKS.refused(x, "leaks what -1", () -> x.leaks(0, -1), NightWater.NOT);
        CHECKS.refused(x, "leaks what 2", () -> x.leaks(0, 2), NightWater.NOT);
    }

    private static void leaks() {
        NightWater x = new NightWater();
        x.zone(10, 7);
        for (int hour = 1; hour <= 4; hour++) {
            x.read(0, hour, true, 500);
        }
        x.read(0, 3, false, 100);
        // hour 3: in 490 .. 510, out 98 .. 102
        due("leaks least", x.leaks(0, 0), 490 - 102 - 7 - 20);
        due("leaks greatest", x.leaks(0, 1), 510 - 98 - 7);
    }

    private static void leaksByRules() {
        NightWater x = exact();
        x.zone(5000, 5000);
        due("no reading, least", x.leaks(0, 0), -5000);
        x.rules(200, 20);
        due("all customers use", x.leaks(0, 0), -105000);
        due("no customer uses", x.leaks(0, 1), -5000);
    }

    private static void valve() {
        NightWater x = new NightWater();
        x.zone(0, 0);
        CHECKS.refused(x, "valve to no zone", () -> x.valve(0, 1), -2);
        x.zone(0, 0);
        due("valve", x.valve(0, 1), 0);
        due("the same again", x.valve(0, 1), 1);
        due("the other way", x.valve(1, 0), 2);
        CHECKS.refused(x, "valve with itself", () -> x.valve(1, 1), -2);
        CHECKS.refused(x, "valve from -1", () -> x.valve(-1, 1), -2);
        CHECKS.refused(x, "valve to 2", () -> x.valve(1, 2), -2);
        CHECKS.refused(x, "valve from 2", () -> x.valve(2, 1), -2);
        CHECKS.refused(x, "valve to -1", () -> x.valve(1, -1), -2);
        for (int number = 3; number < 12; number++) {
            due("valve " + number, x.valve(1, 0), number);
        }
        due("twelve valves", x.count(1), 12);
        CHECKS.refused(x, "13th valve", () -> x.valve(0, 1), -4);
        CHECKS.refused(x, "BAD ahead of FULL", () -> x.valve(0, 0), -2);
        due("a set of all 12", x.explains(4095), 1);
        CHECKS.refused(x, "a set beyond 12", () -> x.explains(4096), -2);
    }

    private static void group() {
        NightWater x = new NightWater();
        for (int zone = 0; zone < 6; zone++) {
            x.zone(0, 0);
        }
        x.valve(5, 4);
        x.valve(3, 2);
        x.valve(4, 3);
        x.valve(2, 3);
        due("alone", x.group(5, 0), 5);
        due("a pair", x.group(5, 1), 4);
        due("its other", x.group(4, 1), 4);
        due("not in the pair", x.group(3, 1), 3);
        due("two pairs", x.group(3, 3), 2);
        due("two pairs", x.group(5, 3), 4);
        due("a chain", x.group(5, 7), 2);
        due("a chain", x.group(4, 7), 2);
        due("a part of the chain", x.group(5, 5), 3);
        due("a ring", x.group(3, 10), 2);
        due("apart from all", x.group(1, 15), 1);
        due("apart from all", x.group(0, 15), 0);
        CHECKS.refused(x, "group of zone 6", () -> x.group(6, 0), -2);
        CHECKS.refused(x, "group of zone -1", () -> x.group(-1, 0), -2);
        CHECKS.refused(x, "group by -1", () -> x.group(0, -1), -2);
        CHECKS.refused(x, "group by 16", () -> x.group(0, 16), -2);
    }

    private static void explains() {
        NightWater x = exact();
        zoneLeaking(x, -5);
        zoneLeaking(x, 3);
        zoneLeaking(x, 5);
        zoneUntold(x);
        x.valve(0, 1);
        x.valve(2, 0);
        x.valve(0, 3);
        due("none open", x.explains(0), 0);
        due("-2 is below 0", x.explains(1), 0);
        due("0 is not below 0", x.explains(2), 1);
        due("three", x.explains(3), 1);
        due("a zone without a LOW", x.explains(4), 1);
        due("all", x.explains(7), 1);
        CHECKS.refused(x, "explains -1", () -> x.explains(-1), -2);
        CHECKS.refused(x, "explains 8", () -> x.explains(8), -2);
    }

    private static void explainsSumsAndUntold() {
        NightWater x = exact();
        zoneUntold(x);
        zoneLeaking(x, -1);
        zoneLeaking(x, -1);
        zoneLeaking(x, 1);
        x.valve(1, 3);
        x.valve(2, 3);
        x.valve(2, 0);
        due("one of two", x.explains(1), 0);
        due("both with one", x.explains(3), 0);
        due("each with its own", x.explains(5), 1);
        due("an untold zone alone is fine", x.explains(7), 1);
        x.rules(200, 0);
        // what comes in, told as 1, is 1.2 cut up: with greatest leaks the sum is 0
        due("greatest leaks are what counts", x.explains(3), 1);
    }

    private static void fewest() {
        NightWater x = exact();
        zoneLeaking(x, 4);
        due("no valve needed", x.fewest(), 0);
        zoneLeaking(x, -3);
        due("no valve there", x.fewest(), -1);
        zoneLeaking(x, 2);
        x.valve(1, 2);
        due("the one is not enough", x.fewest(), -1);
        x.valve(2, 0);
        due("two", x.fewest(), 3);
        x.valve(1, 0);
        due("one", x.fewest(), 4);
        x.read(1, 1, true, 3);
        x.read(1, 2, true, 3);
        x.read(1, 3, true, 3);
        x.read(1, 4, true, 3);
        due("none any more", x.fewest(), 0);
        zoneLeaking(x, -50);
        due("out of reach", x.fewest(), -1);
    }

    private static void fewestOfLikeManyIsLeastNumber() {
        NightWater x = exact();
        zoneLeaking(x, -5);
        zoneLeaking(x, -5);
        zoneLeaking(x, 5);
        zoneLeaking(x, 5);
        x.valve(0, 2);
        x.valve(0, 3);
        x.valve(1, 2);
        x.valve(1, 3);
        due("valves 1 and 2, not 0 and 3", x.fewest(), 6);
        due("0 and 3 would do", x.explains(9), 1);
        x.valve(0, 1);
        due("a fifth does not help", x.fewest(), 6);
    }

    private static void fewestOfAllValves() {
        NightWater x = exact();
        zoneLeaking(x, -700);
        for (int zone = 1; zone < 8; zone++) {
            zoneLeaking(x, 100);
            x.valve(zone - 1, zone);
        }
        for (int more = 0; more < 5; more++) {
            x.valve(6, 7);
        }
        due("seven in a row", x.fewest(), 127);
        zoneLeaking(x, 0);
        x.read(3, 2, true, 99);
        due("one litre short", x.fewest(), -1);
    }

    private static void refusals() {
        NightWater x = new NightWater();
        x.zone(7, 3);
        x.read(0, 2, true, 50);
        CHECKS.refused(x, "customers -1", () -> x.zone(-1, 0), -2);
        CHECKS.refused(x, "customers 5001", () -> x.zone(5001, 0), -2);
        CHECKS.refused(x, "big -1", () -> x.zone(0, -1), -2);
        CHECKS.refused(x, "big 5001", () -> x.zone(0, 5001), -2);
        CHECKS.refused(x, "read zone -1", () -> x.read(-1, 2, true, 1), -2);
        CHECKS.refused(x, "read zone 1", () -> x.read(1, 2, true, 1), -2);
        CHECKS.refused(x, "read hour -1", () -> x.read(0, -1, true, 1), -2);
        CHECKS.refused(x, "read hour 24", () -> x.read(0, 24, true, 1), -2);
        CHECKS.refused(x, "read -2", () -> x.read(0, 2, true, -2), -2);
        CHECKS.refused(x, "read 20001", () -> x.read(0, 2, false, 20001), -2);
        CHECKS.refused(x, "read NOT", () -> x.read(0, 2, false, NightWater.NOT), -2);
    }
}
