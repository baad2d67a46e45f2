/** Promises 16 to 22: days, companies. */
public final class DaysCompaniesTest {
    private static final int BAD = TattooRoads.BAD, NONE = TattooRoads.NONE;
    private static final int ONE = 0, GUIDE = 1, CHILD = 2, ELDER = 3, TWIN = 4, FORGER = 5;
    private static final int LOW = Integer.MIN_VALUE, HIGH = Integer.MAX_VALUE;
    private static final Due due = new Due();

    public static void main(String[] args) {
        daysThatAreRefused();
        daysEndWithTheLast();
        drawsOfADay();
        chancesAreBelow();
        theWayIsDrawn();
        oneIsLedByThoseWhoAreThere();
        whoLearns();
        whatWasLearntStays();
        whatADayNeeds();
        whoLoses();
        waysSlip();
        theLandIsTold();
        journeys();
        journeysByKinds();
        reaches();
        companies();
        regiments();
        dearest();
        due.end();
    }

    private static TattooRoads still() {
        TattooRoads x = new TattooRoads();
        x.rule(0, 0);
        x.rule(1, 0);
        return x;
    }

    /** All wander each day, no way slips. */
    private static TattooRoads restless() {
        TattooRoads x = new TattooRoads();
        x.rule(0, 100);
        x.rule(1, 0);
        return x;
    }

    private static void daysThatAreRefused() {
        TattooRoads x = new TattooRoads();
        int[] wrong = {0, -1, 101, LOW, HIGH};
        for (int n : wrong) {
            due.is("days " + n, BAD, x.days(n));
        }
        due.is("no day went by", 0, x.count(1));
        due.is("no draw", 1, x.count(8));
        due.is("a hundred days", 0, x.days(100));
        due.is("the day", 100, x.count(1));
    }

    private static void daysEndWithTheLast() {
        TattooRoads x = restless();
        x.one(ONE, 0, 99);
        x.way(0, 1);
        x.ink(0, 0);
        for (int i = 0; i < 99; i++) {
            x.days(100);
        }
        due.is("the day", 9900, x.count(1));
        due.is("99 days are left", 99, x.days(100));
        due.is("the last day", 9999, x.count(1));
        int z = x.count(8);
        due.is("none is left", 0, x.days(1));
        due.is("the last day still", 9999, x.count(1));
        due.is("no draw", z, x.count(8));
        due.is("thought has no such bound", 9999 + 50, x.behind(50, 0));
        due.is("nor has arriving", 1, x.arrives(0, 0));
    }

    private static void drawsOfADay() {
        TattooRoads x = still();
        x.one(ONE, 0, 0);
        x.one(ONE, 0, 0);
        x.days(1);
        due.is("one draw each, one for slips", Draws.after(1, 3), x.count(8));
        x.rule(0, 100);
        x.rule(1, 100);
        x.seed(1);
        x.days(1);
        due.is("no more without ways", Draws.after(1, 3), x.count(8));
        x.way(0, 1);
        x.seed(1);
        x.days(1);
        due.is("one more each with ways", Draws.after(1, 6), x.count(8));
        x.rule(0, 0);
        x.seed(1);
        x.days(2);
        due.is("one more for slips alone", Draws.after(1, 8), x.count(8));
    }

    /** z = 1: the first draw is 4310654, its rest by 100 is 54. */
    private static void chancesAreBelow() {
        due.is("the first draw", 4310654, new Draws(1).next());
        for (int wanders = 54; wanders <= 55; wanders++) {
            TattooRoads x = still();
            x.rule(0, wanders);
            x.one(ONE, 0, 0);
            x.way(0, 1);
            x.ink(0, 0);
            due.is("wanders " + wanders, wanders - 54, x.days(1));
        }
        for (int slips = 54; slips <= 55; slips++) {
            TattooRoads x = still();
            x.rule(1, slips);
            x.way(0, 1);
            x.days(1);
            due.is("slips " + slips, 55 - slips, x.land(4));
        }
    }

    private static void theWayIsDrawn() {
        for (int seed = 1; seed < 40; seed++) {
            TattooRoads x = restless();
            x.one(ONE, 0, 0);
            for (int way = 0; way < 7; way++) {
                x.way(way % 2 == 0 ? 0 : way + 1, way % 2 == 0 ? way + 1 : 0);
                x.ink(0, way);
            }
            x.seed(seed);
            Draws draws = new Draws(seed);
            draws.next();
            int way = draws.next() % 7;
            due.is("walks, seed " + seed, 1, x.days(1));
            due.is("is at the other end, seed " + seed, way + 1, x.told(0, 1));
        }
    }

    private static void oneIsLedByThoseWhoAreThere() {
        TattooRoads x = restless();
        x.one(ONE, 0, 0);
        x.one(ONE, 0, 0);
        x.way(0, 1);
        x.ink(0, 0);
        due.is("the first goes, the second is alone then", 1, x.days(1));
        due.is("the second stays", 0, x.told(1, 1));
        due.is("the first comes back, the second is led", 2, x.days(1));
        due.is("the second went", 1, x.told(1, 1));
        due.is("is inked", 1, x.told(1, 3));
        due.is("INKED", 1, x.land(1));
        due.is("both go by themselves", 2, x.days(1));
        due.is("INKED still", 1, x.land(1));
        due.is("WALKED", 5, x.land(0));
    }

    private static void whoLearns() {
        int[] learns = {1, 1, 0, 1, 0, 1};
        for (int kind = 0; kind < 6; kind++) {
            TattooRoads x = restless();
            x.one(kind, 0, 0);
            x.one(GUIDE, 0, 0);
            x.way(0, 1);
            x.ink(1, 0);
            due.is("both walk, kind " + kind, 2, x.days(1));
            due.is("its skin, kind " + kind, learns[kind], x.told(0, 3));
            due.is("INKED, kind " + kind, learns[kind], x.land(1));
        }
    }

    private static void whatWasLearntStays() {
        TattooRoads x = restless();
        x.one(ONE, 0, 10);
        x.one(GUIDE, 0, 10);
        for (int way = 0; way < 4; way++) {
            x.way(0, 1);
            x.ink(1, way);
        }
        x.set(1, 1, 0);
        for (int day = 0; day < 8; day++) {
            int before = x.told(0, 3);
            x.set(0, 1, 0);
            x.set(1, 1, 0);
            x.days(1);
            due.is("what it had it has, day " + day, before, before & x.told(0, 3));
            due.is("INKED counts each, day " + day, Integer.bitCount(x.told(0, 3)), x.land(1));
        }
        due.is("it learnt several", 1, x.land(1) > 1 ? 1 : 0);
    }

    private static void whatADayNeeds() {
        TattooRoads x = restless();
        x.one(ONE, 5, 0);
        x.way(0, 1);
        x.ink(0, 0);
        due.is("a way that does not touch", 0, x.days(9));
        x.set(0, 1, 1);
        x.slides(0);
        due.is("a way that does not stand", 0, x.days(9));
        x.slides(0);
        x.scar(0, 0);
        due.is("a way that nobody reads", 0, x.days(9));
        x.turns(0, FORGER);
        due.is("a forger reads no even way", 0, x.days(9));
        x.way(1, 2);
        due.is("a forger reads an odd one, seldom or often", 1, x.days(50) > 10 ? 1 : 0);
        due.is("and is inked by it", 2, x.told(0, 3));
    }

    private static void whoLoses() {
        int[] loses = {1, 0, 1, 2, 1, 1};
        for (int kind = 0; kind < 6; kind++) {
            TattooRoads x = still();
            x.one(kind, 0, 38);
            for (int way = 0; way < 5; way++) {
                x.way(8, 9);
            }
            for (int way = 1; way < 4; way++) {
                x.ink(0, way);
            }
            x.days(1);
            due.is("39, kind " + kind, 0b1110, x.told(0, 3));
            x.days(1);
            int left = new int[] {0b1110, 0b1100, 0b1000}[loses[kind]];
            due.is("40, kind " + kind, left, x.told(0, 3));
            due.is("FADED, kind " + kind, loses[kind], x.land(2));
            x.days(9);
            due.is("49, kind " + kind, left, x.told(0, 3));
            x.days(1);
            int most = Math.min(3, 2 * loses[kind]);
            due.is("50, FADED, kind " + kind, most, x.land(2));
        }
        TattooRoads x = still();
        x.one(ONE, 0, 97);
        x.way(0, 1);
        x.ink(0, 0);
        x.days(50);
        due.is("99 at most", 99, x.told(0, 2));
        due.is("nothing fades at 99", 1, x.told(0, 3));
        x.set(0, 2, 0);
        x.days(1);
        due.is("1", 1, x.told(0, 2));
        x.days(9);
        due.is("10 fades", 0, x.told(0, 3));
        due.is("FADED", 1, x.land(2));
        x.days(10);
        due.is("nothing to fade", 1, x.land(2));
    }

    private static void waysSlip() {
        TattooRoads x = still();
        for (int way = 0; way < 14; way++) {
            x.way(0, 1);
        }
        x.rule(1, 100);
        Draws draws = new Draws(1);
        int stand = 0x3FFF;
        for (int day = 0; day < 60; day++) {
            x.days(1);
            draws.next();
            stand ^= 1 << draws.next() % 14;
            due.is("ways that stand, day " + day, stand, x.land(4));
        }
        due.is("z", draws.z, x.count(8));
    }

    private static void theLandIsTold() {
        TattooRoads x = restless();
        x.way(0, 1);
        x.way(2, 3);
        x.way(4, 5);
        x.one(ONE, 0, 5);
        x.one(ONE, 2, 25);
        x.ink(0, 0);
        x.ink(1, 0);
        x.ink(1, 2);
        x.slides(1);
        due.is("ways borne", 2, x.land(3));
        due.is("ways that stand", 0b101, x.land(4));
        due.is("ways that nobody bears", 0b010, x.land(5));
        due.is("land 6", BAD, x.land(6));
        due.is("land -1", BAD, x.land(-1));
        x.rule(0, 0);
        x.days(5);
        due.is("FADED", 2, x.land(2));
        due.is("ways borne then", 1, x.land(3));
        due.is("ways that nobody bears then", 0b011, x.land(5));
    }

    /** A road 0 - 1 - 2 - 3 of ways 0, 1, 2 and a short way 3 from 0 to 3. */
    private static TattooRoads road() {
        TattooRoads x = new TattooRoads();
        x.way(0, 1);
        x.way(2, 1);
        x.way(2, 3);
        x.way(3, 0);
        return x;
    }

    private static void journeys() {
        TattooRoads x = road();
        x.one(ONE, 9, 0);
        x.one(ONE, 8, 0);
        for (int way = 0; way < 3; way++) {
            x.ink(0, way);
        }
        x.ink(1, 3);
        due.is("three ways", 3, x.journey(1, 0, 3));
        due.is("back again", 3, x.journey(1, 3, 0));
        due.is("by the other one", 1, x.journey(2, 0, 3));
        due.is("by both", 1, x.journey(3, 0, 3));
        due.is("by both to 2", 2, x.journey(3, 0, 2));
        due.is("the other one alone to 2", NONE, x.journey(2, 0, 2));
        due.is("nobody", NONE, x.journey(0, 0, 3));
        due.is("nobody, nowhere to go", 0, x.journey(0, 3, 3));
        x.slides(3);
        due.is("a way that slid", 3, x.journey(3, 0, 3));
        x.slides(1);
        due.is("no way left", NONE, x.journey(3, 0, 3));
        due.is("a set of others", BAD, x.journey(4, 0, 3));
        due.is("a set below 0", BAD, x.journey(LOW, 0, 3));
        due.is("from 10", BAD, x.journey(1, 10, 3));
        due.is("from -1", BAD, x.journey(1, -1, 3));
        due.is("to 10", BAD, x.journey(1, 0, 10));
        due.is("to -1", BAD, x.journey(1, 0, -1));
        TattooRoads longest = new TattooRoads();
        longest.one(ONE, 0, 0);
        for (int i = 0; i < 9; i++) {
            longest.way(i + 1, i);
            longest.ink(0, i);
        }
        due.is("nine ways", 9, longest.journey(1, 0, 9));
    }

    private static void journeysByKinds() {
        TattooRoads x = road();
        x.one(CHILD, 9, 0);
        x.one(ELDER, 9, 0);
        x.one(FORGER, 9, 0);
        for (int way = 0; way < 4; way++) {
            x.ink(0, way);
            x.ink(1, way);
        }
        due.is("a child reads at each place on the way", 1, x.journey(1, 0, 3));
        due.is("an elder does not read 0 and 3", NONE, x.journey(2, 0, 3));
        due.is("an elder reads 1 and 2", 2, x.journey(2, 1, 3));
        due.is("a forger reads 1 and 3", 1, x.journey(4, 0, 3));
        due.is("a forger does not read 2", NONE, x.journey(4, 1, 3));
        x.slides(3);
        due.is("a child, the long way", 3, x.journey(1, 0, 3));
        due.is("elder and forger", NONE, x.journey(6, 0, 3));
    }

    private static void reaches() {
        TattooRoads x = road();
        x.one(ONE, 2, 0);
        x.one(ONE, 0, 0);
        x.one(TWIN, 0, 0);
        x.ink(0, 0);
        x.ink(0, 1);
        due.is("reach", 0b0111, x.reach(0));
        due.is("reach of one without a skin", 0b0001, x.reach(1));
        x.slides(0);
        due.is("reach, a way slid", 0b0110, x.reach(0));
        due.is("reach of nobody", BAD, x.reach(3));
        due.is("reach of -1", BAD, x.reach(-1));
        due.is("nobody moved", 2, x.told(0, 1));
        TattooRoads longest = new TattooRoads();
        longest.one(ONE, 9, 0);
        for (int i = 0; i < 9; i++) {
            longest.way(i, i + 1);
            longest.ink(0, i);
        }
        due.is("nine ways to the last", 0x3FF, longest.reach(0));
    }

    private static void companies() {
        TattooRoads x = road();
        x.slides(3);
        x.one(ONE, 0, 0);
        x.one(ONE, 0, 0);
        x.one(ONE, 0, 0);
        x.one(ONE, 1, 0);
        due.is("there is none", NONE, x.company(0, 3, 0));
        due.is("how many of none", NONE, x.company(0, 3, 1));
        x.ink(0, 0);
        x.ink(1, 1);
        x.ink(2, 2);
        due.is("all three", 0b111, x.company(0, 3, 0));
        due.is("three", 3, x.company(0, 3, 1));
        x.ink(2, 1);
        due.is("two do", 0b101, x.company(0, 3, 0));
        x.ink(1, 2);
        due.is("the least of two pairs", 0b011, x.company(0, 3, 0));
        due.is("two", 2, x.company(0, 3, 1));
        x.ink(3, 0);
        x.ink(3, 1);
        x.ink(3, 2);
        due.is("one who is elsewhere does not help", 0b011, x.company(0, 3, 0));
        due.is("the least of them alone", 0b001, x.company(0, 1, 0));
        x.set(3, 1, 0);
        due.is("one alone", 0b1000, x.company(0, 3, 0));
        due.is("how many", 1, x.company(0, 3, 1));
        due.is("to the same place", 0, x.company(0, 0, 0));
        due.is("to the same place, how many", 0, x.company(7, 7, 1));
        due.is("from where nobody is", NONE, x.company(7, 0, 0));
        due.is("what 2", BAD, x.company(0, 0, 2));
        due.is("what -1", BAD, x.company(0, 0, -1));
        due.is("from 10", BAD, x.company(10, 0, 0));
        due.is("to -1", BAD, x.company(0, -1, 0));
        due.is("BAD ahead of NONE", BAD, x.company(7, 0, 2));
        due.is("from -1", BAD, x.company(-1, 0, 0));
        due.is("to 10", BAD, x.company(0, 10, 0));
    }

    private static void regiments() {
        TattooRoads x = road();
        due.is("nobody is needed", 0, x.regiment(0));
        x.one(ONE, 0, 0);
        x.one(ONE, 1, 0);
        x.one(ONE, 2, 0);
        x.one(ONE, 3, 0);
        due.is("nothing is known", 0, x.regiment(0));
        due.is("nothing is known, how many", 0, x.regiment(1));
        x.ink(0, 0);
        x.ink(1, 0);
        x.ink(1, 1);
        x.ink(2, 2);
        x.ink(3, 1);
        x.ink(3, 2);
        due.is("two of several pairs", 0b0110, x.regiment(0));
        due.is("two", 2, x.regiment(1));
        x.scar(1, 0);
        due.is("another pair", 0b1001, x.regiment(0));
        x.ink(2, 3);
        due.is("three", 0b0111, x.regiment(0));
        due.is("how many then", 3, x.regiment(1));
        due.is("what 2", BAD, x.regiment(2));
        due.is("what -1", BAD, x.regiment(-1));
        TattooRoads all = new TattooRoads();
        for (int i = 0; i < 8; i++) {
            all.way(0, 1);
            all.one(ONE, 0, 0);
        }
        for (int i = 0; i < 8; i++) {
            all.ink(i, i);
        }
        due.is("all eight", 255, all.regiment(0));
    }

    private static void dearest() {
        TattooRoads x = road();
        due.is("nobody", NONE, x.dear(0));
        due.is("nobody, how many", NONE, x.dear(1));
        due.is("BAD ahead of NONE", BAD, x.dear(2));
        due.is("BAD ahead of NONE, -1", BAD, x.dear(-1));
        x.one(ONE, 0, 0);
        x.one(CHILD, 1, 0);
        x.one(FORGER, 1, 0);
        due.is("the least without ways", 0, x.dear(0));
        due.is("none", 0, x.dear(1));
        x.ink(0, 0);
        x.ink(1, 0);
        x.ink(0, 1);
        x.ink(1, 2);
        due.is("the least of two", 0, x.dear(0));
        due.is("one way", 1, x.dear(1));
        x.ink(1, 3);
        due.is("two ways", 1, x.dear(0));
        due.is("how many", 2, x.dear(1));
        x.ink(2, 3);
        x.ink(2, 2);
        due.is("the others have them too", 0, x.dear(0));
        x.keep();
        x.one(ONE, 0, 0);
        x.way(0, 1);
        x.way(0, 1);
        x.ink(3, 4);
        due.is("one way each: the least", 0, x.dear(0));
        x.ink(3, 5);
        due.is("one more has two", 3, x.dear(0));
        x.back();
        due.is("one who is gone is not missed", 0, x.dear(0));
        TattooRoads all = new TattooRoads();
        all.way(0, 1);
        for (int i = 0; i < 8; i++) {
            all.one(ONE, 0, 0);
        }
        all.ink(7, 0);
        due.is("the last of eight", 7, all.dear(0));
    }
}
