/** Terms 1 and promises 1 to 10: each sentence that names a boundary case has a test of its own. */
public final class ZonesEdgesTest {
    private static final int NONE = NightWater.NONE;
    private static final int BAD = NightWater.BAD;
    private static final int FULL = NightWater.FULL;
    private static final int NOT = NightWater.NOT;
    private static final Checks CHECKS = new Checks("ZonesEdgesTest");

    public static void main(String[] args) {
        newObjectHasNothing();
        newObjectIsAsToldAtFirst();
        zonesAreNumbered0To7();
        ninthZoneIsFull();
        zoneThatComesIsNew();
        customersGoFrom0To5000();
        bigGoesFrom0To5000();
        metersAreExactAt0();
        metersAreWidestAt200();
        leastIsCut();
        greatestIsCutUp();
        outIsCutTheOtherWay();
        customersUseFrom0To20();
        refusedRulesLeaveBoth();
        rulesHoldForWhatWasReadBefore();
        hoursGoFrom0To23();
        readingsGoFrom0To20000();
        lostReadingIsNone();
        lostReadingIsNoZero();
        netIsToldIfBothAre();
        lowLooksAtHours1To4();
        lowTakesTheLeastOfTheirGreatest();
        lowOfLikeOnesIsTheFirstHour();
        lowAtItsGreatestAndLeast();
        withoutLowAllIsNot();
        leaksAtTheirGreatestAndLeast();
        valvesAreNumbered0To11();
        thirteenthValveIsFull();
        valveWithItselfIsBad();
        valveNeedsZonesThatCame();
        valveFromBothEndsAndAgain();
        groupOfNothing();
        groupIsToldByItsLeastZone();
        setsEndWithTheValves();
        explainsWithoutZones();
        explainsFromZeroOn();
        explainsAtTheGreatestSums();
        oneZoneWithoutLowFreesItsGroup();
        fewestOfNothing();
        fewestIsNone();
        fewestGoesAheadOfTheLeastNumber();
        fewestOfLikeManyIsTheLeastNumber();
        fewestOfAllTwelveValves();
        CHECKS.finish();
    }

    private static void due(String call, long got, long want) {
        CHECKS.due(call, got, want);
    }

    private static NightWater exact() {
        NightWater x = new NightWater();
        x.rules(0, 0);
        return x;
    }

    /** Hours 1 .. 4 of a zone that comes, all read alike; answers the zone. */
    private static int zoneReading(NightWater x, int customers, int big, int in, int out) {
        int zone = x.zone(customers, big);
        for (int hour = 1; hour <= 4; hour++) {
            x.read(zone, hour, true, in);
            x.read(zone, hour, false, out);
        }
        return zone;
    }

    private static int zoneWithoutLow(NightWater x) {
        int zone = x.zone(0, 0);
        for (int hour = 1; hour <= 4; hour++) {
            x.read(zone, hour, true, NONE);
        }
        return zone;
    }

    /** What a meter that tells v within e thousandths may mean. */
    private static void means(int v, int e, int least, int greatest) {
        NightWater x = new NightWater();
        x.rules(e, 0);
        zoneReading(x, 0, 0, v, 0);
        due("v " + v + ", e " + e + ", least", x.low(0, 0), least);
        due("v " + v + ", e " + e + ", greatest", x.low(0, 1), greatest);
    }

    /** Promise 1: "no ZONES, no VALVES, no DIGS." */
    private static void newObjectHasNothing() {
        NightWater x = new NightWater();
        due("P1 no ZONES", x.count(0), 0);
        due("P1 no VALVES", x.count(1), 0);
        due("P1 no DIGS", x.count(3), 0);
        CHECKS.refused(x, "P1 read of no ZONE", () -> x.read(0, 0, true, 0), BAD);
        CHECKS.refused(x, "P1 low of no ZONE", () -> x.low(0, 0), NOT);
        CHECKS.refused(x, "P1 leaks of no ZONE", () -> x.leaks(0, 0), NOT);
        CHECKS.refused(x, "P1 valve of no ZONES", () -> x.valve(0, 1), BAD);
        CHECKS.refused(x, "P1 a set of no VALVES", () -> x.explains(1), BAD);
        due("P1 no first DIG", x.order(0), NONE);
        due("P1 nothing is lost", x.lost(), 0);
        due("P1 none goes", x.clear(), 0);
    }

    /** Terms: "0 at first", "20 at first", "2 at first"; promise 17: "one, WEIGHT 0, at first". */
    private static void newObjectIsAsToldAtFirst() {
        NightWater x = new NightWater();
        due("P1 one SECTION", x.count(2), 1);
        due("P1 its plan costs 0", x.cost(0, 0), 0);
        due("P1 its plan closes nowhere", x.closes(0, 0), NONE);
        due("P1 no closing tells it", x.closings(0), 0);
        due("P1 no reading LOST", x.count(4), 0);
        due("P1 no sample LOST", x.count(5), 0);
        for (int d = -16; d <= 16; d++) {
            due("P1 samples are 0, d " + d, x.sum(d, 0), 0);
            due("P1 samples are there, d " + d, x.sum(d, 1), 64 - Math.abs(d));
        }
        zoneReading(x, 1000, 0, 1000, 0);
        due("T1 e is 20 at first", x.low(0, 0), 980);
        due("T1 e is 20 at first", x.low(0, 1), 1020);
        due("T1 u is 2 at first", x.leaks(0, 0), 980 - 2000);
        due("P16 WEIGHT 0 at first", x.section(1, 0, 5), 0);
    }

    /** Terms 1: "ZONES 0 .. 7, as they come"; promise 2: "its number". */
    private static void zonesAreNumbered0To7() {
        NightWater x = new NightWater();
        for (int zone = 0; zone <= 7; zone++) {
            CHECKS.refused(x, "P4 not yet there", () -> x.read(x.count(0), 0, true, 1), BAD);
            due("P2 as they come", x.zone(0, 0), zone);
            due("P25 as they come", x.count(0), zone + 1);
            due("P4 there now", x.read(zone, 0, true, 1), 0);
        }
    }

    /** Promise 2: "FULL: 8." and Terms, "the first of: BAD .. FULL". */
    private static void ninthZoneIsFull() {
        NightWater x = new NightWater();
        for (int zone = 0; zone < 7; zone++) {
            x.zone(0, 0);
        }
        due("P2 the last that goes in", x.zone(1, 1), 7);
        CHECKS.refused(x, "P2 one more", () -> x.zone(1, 1), FULL);
        CHECKS.refused(x, "P2 and again", () -> x.zone(0, 0), FULL);
        CHECKS.refused(x, "P2 BAD CUSTOMERS first", () -> x.zone(-1, 0), BAD);
        CHECKS.refused(x, "P2 BAD BIG first", () -> x.zone(0, 5001), BAD);
        due("P2 eight", x.count(0), 8);
        CHECKS.refused(x, "P4 no ninth", () -> x.read(8, 0, true, 1), BAD);
    }

    /** Terms 1: "0 at first" for each reading of a ZONE, whatever came before. */
    private static void zoneThatComesIsNew() {
        NightWater x = new NightWater();
        int first = x.zone(5000, 5000);
        for (int hour = 0; hour < 24; hour++) {
            x.read(first, hour, true, NONE);
            x.read(first, hour, false, 20000);
        }
        int next = x.zone(0, 0);
        due("P25 none is LOST in it", x.count(4), 24);
        for (int hour = 0; hour < 24; hour++) {
            due("P4 in 0 at first, hour " + hour, x.read(next, hour, true, 3), 0);
            due("P4 out 0 at first, hour " + hour, x.read(next, hour, false, 4), 0);
        }
    }

    /** Terms 1: "CUSTOMERS (0 .. 5000)". */
    private static void customersGoFrom0To5000() {
        NightWater x = new NightWater();
        CHECKS.refused(x, "P2 CUSTOMERS -1", () -> x.zone(-1, 0), BAD);
        CHECKS.refused(x, "P2 CUSTOMERS 5001", () -> x.zone(5001, 0), BAD);
        due("P2 CUSTOMERS 0", x.zone(0, 0), 0);
        due("P2 CUSTOMERS 5000", x.zone(5000, 0), 1);
        due("P6 of 0 CUSTOMERS", x.leaks(0, 0), 0);
        due("P6 of 5000 CUSTOMERS", x.leaks(1, 0), -10000);
        due("P6 the greatest is without them", x.leaks(1, 1), 0);
    }

    /** Terms 1: "BIG use a night hour (0 .. 5000)". */
    private static void bigGoesFrom0To5000() {
        NightWater x = new NightWater();
        CHECKS.refused(x, "P2 BIG -1", () -> x.zone(0, -1), BAD);
        CHECKS.refused(x, "P2 BIG 5001", () -> x.zone(0, 5001), BAD);
        due("P2 BIG 0", x.zone(0, 0), 0);
        due("P2 BIG 5000", x.zone(0, 5000), 1);
        due("P6 BIG 0", x.leaks(0, 1), 0);
        due("P6 BIG 5000, least", x.leaks(1, 0), -5000);
        due("P6 BIG 5000, greatest", x.leaks(1, 1), -5000);
    }

    /** Terms 1: "METERS tell within e thousandths (0 ..": at 0 what is told is so. */
    private static void metersAreExactAt0() {
        means(0, 0, 0, 0);
        means(1, 0, 1, 1);
        means(19999, 0, 19999, 19999);
        means(20000, 0, 20000, 20000);
    }

    /** Terms 1: "METERS tell within e thousandths (.. 200". */
    private static void metersAreWidestAt200() {
        means(0, 200, 0, 0);
        means(1, 200, 0, 2);
        means(5, 200, 4, 6);
        means(6, 200, 4, 8);
        means(20000, 200, 16000, 24000);
        NightWater x = new NightWater();
        CHECKS.refused(x, "P3 e -1", () -> x.rules(-1, 0), BAD);
        CHECKS.refused(x, "P3 e 201", () -> x.rules(201, 0), BAD);
    }

    /** Terms 1: "v is v (1000 - e) by 1000, cut". */
    private static void leastIsCut() {
        means(50, 20, 49, 51);
        means(49, 20, 48, 50);
        means(51, 20, 49, 53);
        means(1, 1, 0, 2);
        means(999, 1, 998, 1000);
    }

    /** Terms 1: "to v (1000 + e) by 1000, cut up": what comes out even is not cut up. */
    private static void greatestIsCutUp() {
        means(1000, 1, 999, 1001);
        means(1001, 1, 999, 1003);
        means(999, 1, 998, 1000);
        means(500, 2, 499, 501);
        means(501, 2, 499, 503);
        means(499, 2, 498, 500);
    }

    /** Terms 1: "in's least less out's greatest, the greatest: in's greatest less out's least". */
    private static void outIsCutTheOtherWay() {
        NightWater x = new NightWater();
        x.rules(1, 0);
        zoneReading(x, 0, 0, 0, 1);
        due("T1 least of out 1", x.low(0, 0), -2);
        due("T1 greatest of out 1", x.low(0, 1), 0);
        NightWater y = new NightWater();
        y.rules(1, 0);
        zoneReading(y, 0, 0, 1001, 1001);
        due("T1 least of like in and out", y.low(0, 0), 999 - 1003);
        due("T1 greatest of like in and out", y.low(0, 1), 1003 - 999);
    }

    /** Terms 1: "A CUSTOMER uses 0 .. u (0 .. 20; 2 at first) a night hour." */
    private static void customersUseFrom0To20() {
        NightWater x = new NightWater();
        zoneReading(x, 5000, 0, 0, 0);
        due("T1 u 0", x.rules(20, 0), 1);
        due("T1 u 0, least", x.leaks(0, 0), 0);
        due("T1 u 20", x.rules(20, 20), 1);
        due("T1 u 20, least", x.leaks(0, 0), -100000);
        due("T1 u 20, greatest", x.leaks(0, 1), 0);
        CHECKS.refused(x, "P3 u -1", () -> x.rules(20, -1), BAD);
        CHECKS.refused(x, "P3 u 21", () -> x.rules(20, 21), BAD);
    }

    /** Promise 3: "BAD.", and "Refused, changing nothing": neither number of a refused call holds. */
    private static void refusedRulesLeaveBoth() {
        NightWater x = new NightWater();
        zoneReading(x, 1000, 0, 10000, 0);
        long least = x.leaks(0, 0);
        due("P3 as before", least, 9800 - 2000);
        CHECKS.refused(x, "P3 e good, u not", () -> x.rules(100, 21), BAD);
        CHECKS.refused(x, "P3 e good, u below", () -> x.rules(0, -1), BAD);
        CHECKS.refused(x, "P3 u good, e not", () -> x.rules(201, 20), BAD);
        CHECKS.refused(x, "P3 u good, e below", () -> x.rules(-1, 0), BAD);
        due("P3 e stays", x.low(0, 1), 10200);
        due("P3 u stays", x.leaks(0, 0), least);
    }

    /** Promise 3: "e and u": the rules of now hold for readings of before. */
    private static void rulesHoldForWhatWasReadBefore() {
        NightWater x = new NightWater();
        zoneReading(x, 10, 0, 1000, 0);
        due("P3 before", x.low(0, 1), 1020);
        x.rules(200, 1);
        due("P3 after, greatest", x.low(0, 1), 1200);
        due("P3 after, least", x.leaks(0, 0), 790);
        x.rules(20, 2);
        due("P3 as before again", x.leaks(0, 0), 960);
    }

    /** Promise 4: "A reading of an hour (0 .. 23)". */
    private static void hoursGoFrom0To23() {
        NightWater x = new NightWater();
        x.zone(0, 0);
        x.zone(0, 0);
        due("P4 hour 0", x.read(0, 0, true, 5), 0);
        due("P4 hour 23", x.read(0, 23, true, 6), 0);
        due("P4 hour 0 holds", x.read(0, 0, true, 7), 5);
        due("P4 hour 23 holds", x.read(0, 23, true, 8), 6);
        due("P4 the next ZONE's hour 0", x.read(1, 0, true, 9), 0);
        due("P4 hour 0 out", x.read(0, 0, false, 9), 0);
        CHECKS.refused(x, "P4 hour -1", () -> x.read(0, -1, true, 1), BAD);
        CHECKS.refused(x, "P4 hour 24", () -> x.read(0, 24, true, 1), BAD);
        CHECKS.refused(x, "P4 hour -1 of ZONE 1", () -> x.read(1, -1, false, 1), BAD);
        CHECKS.refused(x, "P4 LOST of hour 24", () -> x.read(1, 24, false, NONE), BAD);
    }

    /** Terms 1: "(0 .. 20000 each; 0 at first)"; promise 4: "what it was". */
    private static void readingsGoFrom0To20000() {
        NightWater x = new NightWater();
        x.zone(0, 0);
        for (boolean in : new boolean[] {true, false}) {
            due("P4 0 at first", x.read(0, 5, in, 20000), 0);
            CHECKS.refused(x, "P4 20001", () -> x.read(0, 5, in, 20001), BAD);
            CHECKS.refused(x, "P4 below LOST", () -> x.read(0, 5, in, NONE - 1), BAD);
            due("P4 the greatest holds", x.read(0, 5, in, 0), 20000);
            due("P4 the least holds", x.read(0, 5, in, 1), 0);
        }
    }

    /** Promise 4: "or LOST (NONE): what it was (NONE)." */
    private static void lostReadingIsNone() {
        NightWater x = new NightWater();
        x.zone(0, 0);
        due("P4 LOST the first time", x.read(0, 7, true, NONE), 0);
        due("P25 one LOST", x.count(4), 1);
        due("P4 LOST again", x.read(0, 7, true, NONE), NONE);
        due("P25 still one LOST", x.count(4), 1);
        due("P4 out is not LOST", x.read(0, 7, false, 9), 0);
        due("P4 no more LOST", x.read(0, 7, true, 0), NONE);
        due("P25 none LOST", x.count(4), 0);
        due("P4 it is 0", x.read(0, 7, true, 5), 0);
    }

    /** Terms 1: "or LOST ones": a reading that is LOST is not one of -1 nor one of 0. */
    private static void lostReadingIsNoZero() {
        NightWater x = exact();
        zoneReading(x, 0, 0, 50, 10);
        x.read(0, 2, true, NONE);
        due("T1 in LOST is no little in", x.low(0, 1), 40);
        x.read(0, 3, false, NONE);
        x.read(0, 1, true, 60);
        x.read(0, 4, true, 70);
        due("T1 out LOST is no out of 0", x.low(0, 1), 50);
        due("T1 the first that is told", x.low(0, 2), 1);
    }

    /** Terms 1: "The NET of an hour is told if both readings are". */
    private static void netIsToldIfBothAre() {
        NightWater x = exact();
        zoneReading(x, 0, 0, 100, 0);
        x.read(0, 3, true, 5);
        due("T1 both are", x.low(0, 2), 3);
        x.read(0, 3, false, NONE);
        due("T1 out is not", x.low(0, 2), 1);
        x.read(0, 3, true, NONE);
        due("T1 neither is", x.low(0, 2), 1);
        x.read(0, 3, false, 0);
        due("T1 in is not", x.low(0, 2), 1);
        x.read(0, 3, true, 5);
        due("T1 both are again", x.low(0, 2), 3);
    }

    /** Terms 1: "THE LOW of a ZONE: of hours 1 .. 4". */
    private static void lowLooksAtHours1To4() {
        NightWater x = exact();
        zoneReading(x, 0, 0, 100, 0);
        x.read(0, 0, false, 20000);
        x.read(0, 5, false, 20000);
        due("T1 hours 0 and 5 do not count", x.low(0, 1), 100);
        x.read(0, 4, true, 99);
        due("T1 hour 4 does", x.low(0, 2), 4);
        x.read(0, 1, true, 98);
        due("T1 hour 1 does", x.low(0, 2), 1);
        for (int hour = 1; hour <= 4; hour++) {
            x.read(0, hour, false, NONE);
        }
        due("T1 hours 0 and 5 make no LOW", x.low(0, 2), NOT);
        x.read(0, 4, false, 1);
        due("T1 the last hour alone does", x.low(0, 2), 4);
        x.read(0, 4, false, NONE);
        x.read(0, 1, false, 1);
        due("T1 the first hour alone does", x.low(0, 2), 1);
    }

    /** Terms 1: "the least of their greatest, and with it that hour's least". */
    private static void lowTakesTheLeastOfTheirGreatest() {
        NightWater x = new NightWater();
        x.rules(100, 0);
        zoneReading(x, 0, 0, 20000, 0);
        // hour 2: 900 .. 1100 less 450 .. 550, hour 3: 540 .. 660
        x.read(0, 2, true, 1000);
        x.read(0, 2, false, 500);
        x.read(0, 3, true, 600);
        due("T1 hour 2 has a lesser greatest", x.low(0, 2), 2);
        due("T1 its greatest", x.low(0, 1), 650);
        due("T1 its least", x.low(0, 0), 350);
        x.read(0, 3, true, 590);
        due("T1 hour 3 has it now", x.low(0, 2), 3);
        due("T1 though its least is greater", x.low(0, 0), 531);
        due("T1 its greatest", x.low(0, 1), 649);
    }

    /** Terms 1: "(of like ones the first hour)". */
    private static void lowOfLikeOnesIsTheFirstHour() {
        NightWater x = new NightWater();
        zoneReading(x, 0, 0, 20000, 0);
        // greatest 51 each; least 49 in hour 1, 45 in hour 4
        x.read(0, 1, true, 50);
        x.read(0, 4, true, 98);
        x.read(0, 4, false, 50);
        due("T1 the first has the greater least", x.low(0, 2), 1);
        due("T1 its least", x.low(0, 0), 49);
        x.read(0, 1, true, 98);
        x.read(0, 1, false, 50);
        x.read(0, 4, true, 50);
        x.read(0, 4, false, 0);
        due("T1 the first has the lesser least", x.low(0, 2), 1);
        due("T1 its least", x.low(0, 0), 45);
        due("T1 their greatest", x.low(0, 1), 51);
        NightWater y = new NightWater();
        y.zone(0, 0);
        due("T1 four like ones", y.low(0, 2), 1);
    }

    /** Terms 1: the NET where readings and e are at their greatest. */
    private static void lowAtItsGreatestAndLeast() {
        NightWater x = new NightWater();
        x.rules(200, 0);
        zoneReading(x, 0, 0, 20000, 0);
        zoneReading(x, 0, 0, 0, 20000);
        zoneReading(x, 0, 0, 20000, 20000);
        due("T1 all in, least", x.low(0, 0), 16000);
        due("T1 all in, greatest", x.low(0, 1), 24000);
        due("T1 all out, least", x.low(1, 0), -24000);
        due("T1 all out, greatest", x.low(1, 1), -16000);
        due("T1 all through, least", x.low(2, 0), -8000);
        due("T1 all through, greatest", x.low(2, 1), 8000);
    }

    /** Promises 5 and 6: "BAD: NOT, also without one", "also without a LOW". */
    private static void withoutLowAllIsNot() {
        NightWater x = new NightWater();
        zoneWithoutLow(x);
        for (int what = -1; what <= 3; what++) {
            int asked = what;
            CHECKS.refused(x, "P5 without one " + what, () -> x.low(0, asked), NOT);
            CHECKS.refused(x, "P6 without a LOW " + what, () -> x.leaks(0, asked), NOT);
            CHECKS.refused(x, "P5 of no ZONE " + what, () -> x.low(1, asked), NOT);
            CHECKS.refused(x, "P6 of no ZONE " + what, () -> x.leaks(1, asked), NOT);
        }
        x.read(0, 4, true, 0);
        due("P5 with one", x.low(0, 2), 4);
        CHECKS.refused(x, "P5 what 3", () -> x.low(0, 3), NOT);
        CHECKS.refused(x, "P5 what -1", () -> x.low(0, -1), NOT);
        CHECKS.refused(x, "P6 what 2", () -> x.leaks(0, 2), NOT);
        CHECKS.refused(x, "P6 what -1", () -> x.leaks(0, -1), NOT);
    }

    /** Terms 1: "less BIG and less CUSTOMERS times u", all at their greatest. */
    private static void leaksAtTheirGreatestAndLeast() {
        NightWater x = new NightWater();
        x.rules(200, 20);
        zoneReading(x, 5000, 5000, 0, 20000);
        zoneReading(x, 0, 0, 20000, 0);
        due("P6 the least there is", x.leaks(0, 0), -24000 - 5000 - 100000);
        due("P6 the least greatest", x.leaks(0, 1), -16000 - 5000);
        due("P6 the greatest least", x.leaks(1, 0), 16000);
        due("P6 the greatest there is", x.leaks(1, 1), 24000);
    }

    /** Terms 1: "VALVES 0 .. 11, as they come"; promise 7: "its number". */
    private static void valvesAreNumbered0To11() {
        NightWater x = new NightWater();
        x.zone(0, 0);
        x.zone(0, 0);
        for (int valve = 0; valve <= 11; valve++) {
            int set = 1 << valve;
            CHECKS.refused(x, "P8 not yet there", () -> x.group(1, set), BAD);
            due("P7 as they come", x.valve(0, 1), valve);
            due("P25 as they come", x.count(1), valve + 1);
            due("P8 its bit", x.group(1, set), 0);
        }
    }

    /** Promise 7: "FULL: 12." and Terms, "the first of: BAD .. FULL". */
    private static void thirteenthValveIsFull() {
        NightWater x = new NightWater();
        x.zone(0, 0);
        x.zone(0, 0);
        for (int valve = 0; valve < 11; valve++) {
            x.valve(1, 0);
        }
        due("P7 the last that goes in", x.valve(0, 1), 11);
        CHECKS.refused(x, "P7 one more", () -> x.valve(0, 1), FULL);
        CHECKS.refused(x, "P7 BAD, with itself, first", () -> x.valve(1, 1), BAD);
        CHECKS.refused(x, "P7 BAD, no ZONE, first", () -> x.valve(0, 2), BAD);
        CHECKS.refused(x, "P7 BAD, below 0, first", () -> x.valve(-1, 0), BAD);
        due("P7 twelve", x.count(1), 12);
    }

    /** Promise 7: "BAD: also a ZONE with itself". */
    private static void valveWithItselfIsBad() {
        NightWater x = new NightWater();
        for (int zone = 0; zone < 8; zone++) {
            int same = zone;
            x.zone(0, 0);
            CHECKS.refused(x, "P7 with itself", () -> x.valve(same, same), BAD);
        }
        CHECKS.refused(x, "P7 no ZONE with itself", () -> x.valve(8, 8), BAD);
        due("P7 with its neighbour", x.valve(7, 6), 0);
    }

    /** Terms 1: "stand between two ZONES": both have come. */
    private static void valveNeedsZonesThatCame() {
        NightWater x = new NightWater();
        CHECKS.refused(x, "P7 no ZONES", () -> x.valve(0, 1), BAD);
        x.zone(0, 0);
        CHECKS.refused(x, "P7 b has not come", () -> x.valve(0, 1), BAD);
        CHECKS.refused(x, "P7 a has not come", () -> x.valve(1, 0), BAD);
        x.zone(0, 0);
        due("P7 both have", x.valve(0, 1), 0);
        CHECKS.refused(x, "P7 a third", () -> x.valve(1, 2), BAD);
    }

    /** Promise 7 names no other BAD: a VALVE may stand where one stands, told from either end. */
    private static void valveFromBothEndsAndAgain() {
        NightWater x = new NightWater();
        x.zone(0, 0);
        x.zone(0, 0);
        due("P7 a VALVE", x.valve(0, 1), 0);
        due("P7 the same", x.valve(0, 1), 1);
        due("P7 from the other end", x.valve(1, 0), 2);
        due("P8 by the third", x.group(1, 4), 0);
        due("P8 by all", x.group(1, 7), 0);
    }

    /** Promise 8: no ZONES, no VALVES, the empty set. */
    private static void groupOfNothing() {
        NightWater x = new NightWater();
        CHECKS.refused(x, "P8 no ZONES", () -> x.group(0, 0), BAD);
        x.zone(0, 0);
        due("P8 no VALVES", x.group(0, 0), 0);
        CHECKS.refused(x, "P8 a set of no VALVES", () -> x.group(0, 1), BAD);
        x.zone(0, 0);
        x.valve(0, 1);
        due("P8 the empty set", x.group(1, 0), 1);
        due("P8 the full set", x.group(1, 1), 0);
    }

    /** Promise 8: "told by its least ZONE", of one ZONE and of all eight. */
    private static void groupIsToldByItsLeastZone() {
        NightWater x = new NightWater();
        for (int zone = 0; zone < 8; zone++) {
            x.zone(0, 0);
        }
        // a chain told from its end, so that groups of greater numbers are joined to lesser ones
        for (int zone = 7; zone >= 1; zone--) {
            x.valve(zone, zone - 1);
        }
        for (int zone = 0; zone < 8; zone++) {
            due("P8 alone", x.group(zone, 0), zone);
            due("P8 all", x.group(zone, 127), 0);
            due("P8 4 and 3 apart", x.group(zone, 127 - 8), zone >= 4 ? 4 : 0);
        }
    }

    /** Promises 8 and 9: "a set of VALVES (bits)": the last bit is that of the last VALVE. */
    private static void setsEndWithTheValves() {
        NightWater x = new NightWater();
        x.zone(0, 0);
        x.zone(0, 0);
        for (int valve = 0; valve < 12; valve++) {
            int sets = 1 << valve;
            due("P8 all there are", x.group(1, sets - 1), valve == 0 ? 1 : 0);
            due("P9 all there are", x.explains(sets - 1), 1);
            CHECKS.refused(x, "P8 one more", () -> x.group(1, sets), BAD);
            CHECKS.refused(x, "P9 one more", () -> x.explains(sets), BAD);
            x.valve(0, 1);
        }
        due("P8 all twelve", x.group(1, 4095), 0);
        due("P9 all twelve", x.explains(4095), 1);
        CHECKS.refused(x, "P8 beyond twelve", () -> x.group(1, 4096), BAD);
        CHECKS.refused(x, "P9 beyond twelve", () -> x.explains(4096), BAD);
        CHECKS.refused(x, "P8 below 0", () -> x.group(1, -1), BAD);
        CHECKS.refused(x, "P9 below 0", () -> x.explains(-1), BAD);
    }

    /** Terms 1: "A set EXPLAINS, if no GROUP ..": without ZONES there is none. */
    private static void explainsWithoutZones() {
        NightWater x = new NightWater();
        due("P9 the empty set", x.explains(0), 1);
        CHECKS.refused(x, "P9 no VALVES", () -> x.explains(1), BAD);
    }

    /** Terms 1: "a greatest LEAK below 0": 0 is not below 0, alone and put together. */
    private static void explainsFromZeroOn() {
        NightWater x = exact();
        zoneReading(x, 0, 0, 5, 5);
        due("P9 0 alone", x.explains(0), 1);
        zoneReading(x, 0, 0, 4, 5);
        due("P9 -1 alone", x.explains(0), 0);
        zoneReading(x, 0, 0, 5, 4);
        x.valve(0, 1);
        x.valve(1, 2);
        due("P9 0 and -1", x.explains(1), 0);
        due("P9 -1 and 1", x.explains(2), 1);
        x.read(2, 4, true, 4);
        due("P9 -1 and 0", x.explains(2), 0);
        due("P9 all three", x.explains(3), 0);
    }

    /** Terms 1: "a GROUP's LEAKS are the sums of its ZONES'", where sums are at their greatest. */
    private static void explainsAtTheGreatestSums() {
        NightWater x = new NightWater();
        x.rules(200, 20);
        // four of 24000, four of -16000 - 5000
        for (int zone = 0; zone < 4; zone++) {
            zoneReading(x, 0, 0, 20000, 0);
            zoneReading(x, 5000, 5000, 0, 20000);
        }
        for (int zone = 1; zone < 8; zone++) {
            x.valve(zone - 1, zone);
        }
        due("P9 12000 in all", x.explains(127), 1);
        due("P10 pairs", x.fewest(), 1 + 4 + 16 + 64);
        NightWater y = exact();
        for (int zone = 0; zone < 8; zone++) {
            zoneReading(y, 0, 5000, 0, 20000);
        }
        for (int zone = 1; zone < 8; zone++) {
            y.valve(zone - 1, zone);
        }
        due("P9 -200000 in all", y.explains(127), 0);
        due("P10 none", y.fewest(), NONE);
        y.read(7, 1, true, NONE);
        y.read(7, 2, true, NONE);
        y.read(7, 3, true, NONE);
        due("P10 one hour is told", y.fewest(), NONE);
        y.read(7, 4, true, NONE);
        due("P10 no hour of one ZONE is told", y.fewest(), 127);
    }

    /** Terms 1: "no GROUP of ZONES that all have a LOW". */
    private static void oneZoneWithoutLowFreesItsGroup() {
        NightWater x = exact();
        zoneReading(x, 0, 5000, 0, 20000);
        zoneReading(x, 0, 5000, 0, 20000);
        zoneWithoutLow(x);
        zoneWithoutLow(x);
        x.valve(0, 1);
        x.valve(1, 2);
        x.valve(2, 3);
        due("P9 two that have one", x.explains(1), 0);
        due("P9 with it, all but ZONE 0", x.explains(2), 0);
        due("P9 with it", x.explains(3), 1);
        due("P9 two without one", x.explains(4), 0);
        due("P9 all", x.explains(7), 1);
        due("P10 the fewest", x.fewest(), 3);
        x.read(2, 1, true, 0);
        due("P9 it has one now", x.explains(3), 0);
        due("P10 the other still has none", x.fewest(), 7);
        x.read(3, 1, true, 0);
        due("P10 all have one", x.fewest(), NONE);
    }

    /** Promise 10: no ZONES, no VALVES, nothing to explain. */
    private static void fewestOfNothing() {
        NightWater x = exact();
        due("P10 no ZONES", x.fewest(), 0);
        zoneWithoutLow(x);
        due("P10 a ZONE without a LOW", x.fewest(), 0);
        zoneReading(x, 0, 0, 0, 0);
        due("P10 0 is not below 0", x.fewest(), 0);
        x.valve(0, 1);
        due("P10 no VALVE is needed", x.fewest(), 0);
    }

    /** Promise 10: "NONE: none EXPLAINS." */
    private static void fewestIsNone() {
        NightWater x = exact();
        zoneReading(x, 0, 0, 0, 1);
        due("P10 no VALVES", x.fewest(), NONE);
        zoneReading(x, 0, 0, 0, 0);
        x.valve(0, 1);
        due("P10 one too few", x.fewest(), NONE);
        for (int hour = 1; hour <= 4; hour++) {
            x.read(1, hour, true, 1);
        }
        due("P10 just enough", x.fewest(), 1);
    }

    /** Terms 1: "of all sets that EXPLAIN that with the fewest VALVES": before the least number. */
    private static void fewestGoesAheadOfTheLeastNumber() {
        NightWater x = exact();
        zoneReading(x, 0, 0, 0, 10);
        zoneReading(x, 0, 0, 5, 0);
        zoneReading(x, 0, 0, 5, 0);
        zoneReading(x, 0, 0, 10, 0);
        x.valve(0, 1);
        x.valve(0, 2);
        due("P10 two of them", x.fewest(), 3);
        x.valve(0, 3);
        due("P9 the lesser number EXPLAINS", x.explains(3), 1);
        due("P10 one of a greater number", x.fewest(), 4);
    }

    /** Terms 1: "of like many the least as a number." */
    private static void fewestOfLikeManyIsTheLeastNumber() {
        NightWater x = exact();
        zoneReading(x, 0, 0, 0, 10);
        zoneReading(x, 0, 0, 10, 0);
        x.valve(1, 0);
        x.valve(0, 1);
        x.valve(0, 1);
        due("P10 the first of three", x.fewest(), 1);
        zoneReading(x, 0, 0, 0, 10);
        zoneReading(x, 0, 0, 10, 0);
        x.valve(2, 3);
        x.valve(2, 1);
        x.valve(0, 3);
        // 1 + 8, or 16 + 32: the least number, not that with the least last bit alone
        due("P10 of two and two", x.fewest(), 9);
        NightWater y = exact();
        zoneReading(y, 0, 0, 0, 5);
        zoneReading(y, 0, 0, 0, 5);
        zoneReading(y, 0, 0, 5, 0);
        zoneReading(y, 0, 0, 5, 0);
        y.valve(0, 2);
        y.valve(0, 3);
        y.valve(1, 2);
        y.valve(1, 3);
        due("P9 0 and 3 EXPLAIN", y.explains(9), 1);
        due("P10 1 and 2 are less", y.fewest(), 6);
    }

    /** Promise 10 with 8 ZONES and 12 VALVES: all ZONES are needed, and the last VALVES with them. */
    private static void fewestOfAllTwelveValves() {
        NightWater x = exact();
        zoneReading(x, 0, 0, 0, 7000);
        for (int zone = 1; zone < 8; zone++) {
            zoneReading(x, 0, 0, 1000, 0);
        }
        for (int valve = 0; valve < 5; valve++) {
            x.valve(0, 1);
        }
        for (int zone = 1; zone < 8; zone++) {
            x.valve(zone - 1, zone);
        }
        due("P10 one of like ones, and the last six", x.fewest(), 1 + 4032);
        due("P9 without the last", x.explains(2047), 0);
        due("P9 all twelve", x.explains(4095), 1);
        x.read(0, 2, false, 7001);
        due("P10 one too few", x.fewest(), NONE);
    }
}
