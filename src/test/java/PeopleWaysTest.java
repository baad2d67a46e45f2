/** Promises 1 to 15: people, ways. */
public final class PeopleWaysTest {
    private static final int BAD = TattooRoads.BAD, NO = TattooRoads.NO, FULL = TattooRoads.FULL;
    private static final int NONE = TattooRoads.NONE, NOTHING = TattooRoads.NOTHING, KIND = TattooRoads.KIND;
    private static final int ONE = 0, GUIDE = 1, CHILD = 2, ELDER = 3, TWIN = 4, FORGER = 5;
    private static final int LOW = Integer.MIN_VALUE, HIGH = Integer.MAX_VALUE;
    private static final Due due = new Due();

    public static void main(String[] args) {
        aNewObject();
        onesAreNumbered();
        waysAreNumbered();
        plainThingsAreTold();
        eachKindReadsItsOwnWay();
        onlyWaysThatAreThereAreRead();
        eachKindHasItsWorth();
        oneAsOneOfAKind();
        turningToAnotherKind();
        settingPlaceAndAge();
        inkingAndScarring();
        aboutAWay();
        slidingWays();
        thoseInAPlace();
        rules();
        dealing();
        seeding();
        due.end();
    }

    private static void aNewObject() {
        TattooRoads x = new TattooRoads();
        int[] counts = {0, 0, 0, 60, 10, 0, 0, 0, 1};
        for (int what = 0; what < counts.length; what++) {
            due.is("new: count " + what, counts[what], x.count(what));
        }
        for (int what = 0; what <= 5; what++) {
            due.is("new: land " + what, 0, x.land(what));
        }
        for (int i = 0; i < 4; i++) {
            due.is("new: sheet is missing " + i, NOTHING, x.reads(i));
        }
        for (int i = 0; i < 5; i++) {
            due.is("new: slot holds nothing " + i, NOTHING, x.rest(i, 1));
        }
        for (int key = 0; key < 3; key++) {
            due.is("new: why " + key, NONE, x.why(key));
        }
        due.is("new: no one", BAD, x.told(0, 0));
        due.is("new: no way", BAD, x.about(0, 0));
        due.is("new: no image", NO, x.back());
        due.is("new: fee", 0, x.fee());
    }

    private static void onesAreNumbered() {
        TattooRoads x = new TattooRoads();
        int[][] wrong = {{-1, 0, 0}, {6, 0, 0}, {0, -1, 0}, {0, 10, 0}, {0, 0, -1}, {0, 0, 100},
            {LOW, 0, 0}, {HIGH, 0, 0}, {0, LOW, 0}, {0, HIGH, 0}, {0, 0, LOW}, {0, 0, HIGH}};
        for (int[] w : wrong) {
            due.is("one wrong " + w[0] + " " + w[1] + " " + w[2], BAD, x.one(w[0], w[1], w[2]));
        }
        due.is("nobody came", 0, x.count(0));
        for (int i = 0; i < 8; i++) {
            due.is("one " + i, i, x.one(i % 6, 9 - i, i == 0 ? 99 : i - 1));
        }
        due.is("one too many", FULL, x.one(0, 0, 0));
        due.is("BAD stands ahead of FULL", BAD, x.one(6, 0, 0));
        due.is("eight", 8, x.count(0));
        for (int i = 0; i < 8; i++) {
            due.is("kind " + i, i % 6, x.told(i, 0));
            due.is("place " + i, 9 - i, x.told(i, 1));
            due.is("age " + i, i == 0 ? 99 : i - 1, x.told(i, 2));
            due.is("no skin " + i, 0, x.told(i, 3));
        }
    }

    private static void waysAreNumbered() {
        TattooRoads x = new TattooRoads();
        int[][] wrong = {{-1, 0}, {0, -1}, {10, 0}, {0, 10}, {0, 0}, {9, 9}, {LOW, 0}, {0, HIGH}, {LOW, LOW}};
        for (int[] w : wrong) {
            due.is("way wrong " + w[0] + " " + w[1], BAD, x.way(w[0], w[1]));
        }
        for (int i = 0; i < 14; i++) {
            due.is("way " + i, i, x.way(i % 10, (i + 9) % 10));
        }
        due.is("a way too many", FULL, x.way(0, 1));
        due.is("BAD stands ahead of FULL", BAD, x.way(3, 3));
        due.is("fourteen", 14, x.count(2));
        due.is("all stand", 0x3FFF, x.land(4));
    }

    private static void plainThingsAreTold() {
        TattooRoads x = new TattooRoads();
        x.one(TWIN, 7, 33);
        x.way(7, 2);
        x.way(3, 2);
        x.ink(0, 1);
        int[] told = {TWIN, 7, 33, 2, 2, 60, 35};
        for (int what = 0; what < told.length; what++) {
            due.is("told " + what, told[what], x.told(0, what));
        }
        due.is("told -1", BAD, x.told(0, -1));
        due.is("told 7", BAD, x.told(0, 7));
        due.is("told of nobody", BAD, x.told(1, 0));
        due.is("told of -1", BAD, x.told(-1, 0));
        due.is("told of the lowest", BAD, x.told(LOW, HIGH));
        x.rule(0, 13);
        due.is("urge without a text is wanders", 13, x.told(0, 5));
    }

    /** Ways 0, 1, 2, 3 touch place 0 (as from, to, from, to), 4 .. 13 do not. */
    private static TattooRoads landOfFourteenWays() {
        TattooRoads x = new TattooRoads();
        x.way(0, 1);
        x.way(1, 0);
        x.way(0, 2);
        x.way(2, 0);
        for (int i = 4; i < 14; i++) {
            x.way(5, 6);
        }
        return x;
    }

    private static void inkAll(TattooRoads x, int one, int ways) {
        for (int way = 0; way < 14; way++) {
            if ((ways >> way & 1) != 0) {
                x.ink(one, way);
            }
        }
    }

    private static void eachKindReadsItsOwnWay() {
        TattooRoads x = landOfFourteenWays();
        int[] all = {0x3FFF, 0x3FFF, 0b1111, 0x3FFF & ~(1 | 8 | 64 | 512 | 4096), 0b1111 | 0x2AAA, 0b1010};
        for (int kind = 0; kind < 6; kind++) {
            x.one(kind, 0, 0);
            due.is("reads without a skin, kind " + kind, kind == FORGER ? 0b1010 : 0, x.told(kind, 4));
            inkAll(x, kind, 0x3FFF);
            due.is("reads with all, kind " + kind, all[kind], x.told(kind, 4));
        }
        for (int kind = 0; kind < 6; kind++) {
            x.set(kind, 1, 6);
        }
        int[] elsewhere = {0x3FFF, 0x3FFF, 0x3FF0, 0x2DB6, 0x3FFA, 0x2AA0};
        for (int kind = 0; kind < 6; kind++) {
            due.is("reads in place 6, kind " + kind, elsewhere[kind], x.told(kind, 4));
        }
        x.slides(13);
        due.is("what does not stand is read as well", 0x2AA0, x.told(FORGER, 4));
        x.scar(TWIN, 5);
        x.scar(TWIN, 1);
        due.is("a twin reads its own skin alone", 0x3FFA & ~0b100010, x.told(TWIN, 4));
    }

    private static void onlyWaysThatAreThereAreRead() {
        TattooRoads x = new TattooRoads();
        x.one(FORGER, 0, 0);
        x.one(ELDER, 0, 0);
        due.is("a forger without ways", 0, x.told(0, 4));
        x.way(0, 1);
        due.is("a forger with way 0", 0, x.told(0, 4));
        x.way(2, 0);
        due.is("a forger with way 1", 2, x.told(0, 4));
        x.ink(1, 0);
        due.is("an elder with way 0", 0, x.told(1, 4));
    }

    private static void eachKindHasItsWorth() {
        TattooRoads x = landOfFourteenWays();
        int[] none = {0, 5, 40, 10, 36, 3};
        int[] three = {3, 8, 37, 16, 33, 3};
        for (int kind = 0; kind < 6; kind++) {
            x.one(kind, 9, 50);
            due.is("worth without a skin, kind " + kind, none[kind], x.told(kind, 6));
            inkAll(x, kind, 0b10001001);
            due.is("worth with three, kind " + kind, three[kind], x.told(kind, 6));
        }
    }

    private static void oneAsOneOfAKind() {
        boolean[][] under = {
            {true, false, false, false, false, false},
            {true, true, false, false, false, false},
            {true, false, true, false, false, false},
            {true, true, false, true, false, false},
            {true, false, true, false, true, false},
            {true, false, false, false, false, true}};
        TattooRoads x = new TattooRoads();
        for (int kind = 0; kind < 6; kind++) {
            x.one(kind, kind + 2, 0);
            for (int as = 0; as < 6; as++) {
                due.is("kind " + kind + " as " + as, under[kind][as] ? kind + 2 : KIND, x.as(kind, as));
            }
        }
        due.is("as of nobody", BAD, x.as(6, 0));
        due.is("as of -1", BAD, x.as(-1, 0));
        due.is("as no kind", BAD, x.as(0, 6));
        due.is("as kind -1", BAD, x.as(0, -1));
        due.is("as BAD ahead of KIND", BAD, x.as(HIGH, LOW));
    }

    private static void turningToAnotherKind() {
        TattooRoads x = new TattooRoads();
        x.one(GUIDE, 1, 2);
        due.is("turns to twin", GUIDE, x.turns(0, TWIN));
        due.is("is a twin", TWIN, x.told(0, 0));
        due.is("turns to the same", TWIN, x.turns(0, TWIN));
        due.is("a twin is a child", 1, x.as(0, CHILD));
        due.is("place and age stay", 1 * 100 + 2, x.told(0, 1) * 100 + x.told(0, 2));
        due.is("turns to none", BAD, x.turns(0, 6));
        due.is("turns to -1", BAD, x.turns(0, -1));
        due.is("turns nobody", BAD, x.turns(1, 0));
        due.is("turns -1", BAD, x.turns(-1, 0));
        due.is("nothing changed", TWIN, x.told(0, 0));
    }

    private static void settingPlaceAndAge() {
        TattooRoads x = new TattooRoads();
        x.one(ONE, 3, 30);
        due.is("set place", 3, x.set(0, 1, 9));
        due.is("set place again", 9, x.set(0, 1, 0));
        due.is("set age", 30, x.set(0, 2, 99));
        due.is("set age again", 99, x.set(0, 2, 0));
        due.is("place then", 0, x.told(0, 1));
        due.is("age then", 0, x.told(0, 2));
        x.set(0, 1, 4);
        x.set(0, 2, 44);
        int[][] wrong = {{0, 1, 10}, {0, 1, -1}, {0, 2, 100}, {0, 2, -1}, {0, 0, 1}, {0, 3, 1}, {1, 1, 1}, {-1, 1, 1},
            {0, 1, HIGH}, {0, 2, LOW}, {LOW, LOW, LOW}, {HIGH, 2, 2}};
        for (int[] w : wrong) {
            due.is("set wrong " + w[0] + " " + w[1] + " " + w[2], BAD, x.set(w[0], w[1], w[2]));
        }
        due.is("nothing changed", 444, x.told(0, 1) * 100 + x.told(0, 2));
        due.is("age may be above 10", 44, x.set(0, 2, 10));
    }

    private static void inkingAndScarring() {
        TattooRoads x = new TattooRoads();
        x.one(CHILD, 0, 0);
        due.is("ink without ways", BAD, x.ink(0, 0));
        for (int i = 0; i < 14; i++) {
            x.way(1, 2);
        }
        due.is("ink the last", 1, x.ink(0, 13));
        due.is("ink the first", 2, x.ink(0, 0));
        due.is("ink it again", NO, x.ink(0, 13));
        due.is("skin", 0x2001, x.told(0, 3));
        due.is("ink none", BAD, x.ink(0, 14));
        due.is("ink -1", BAD, x.ink(0, -1));
        due.is("ink 32", BAD, x.ink(0, 32));
        due.is("ink nobody", BAD, x.ink(1, 0));
        due.is("ink -1, 0", BAD, x.ink(-1, 0));
        due.is("inking by hand is not INKED", 0, x.land(1));
        due.is("scar what is not there", NO, x.scar(0, 1));
        due.is("scar", 1, x.scar(0, 0));
        due.is("scar it again", NO, x.scar(0, 0));
        due.is("scar nobody", BAD, x.scar(1, 13));
        due.is("scar -1", BAD, x.scar(-1, 13));
        due.is("scar no way", BAD, x.scar(0, 14));
        due.is("scar way -1", BAD, x.scar(0, -1));
        due.is("skin then", 0x2000, x.told(0, 3));
        due.is("scar the last", 0, x.scar(0, 13));
        due.is("scarring is not FADED", 0, x.land(2));
    }

    private static void aboutAWay() {
        TattooRoads x = new TattooRoads();
        x.way(4, 9);
        x.way(8, 0);
        x.one(ONE, 0, 0);
        x.one(FORGER, 0, 0);
        x.one(CHILD, 0, 0);
        x.ink(0, 1);
        x.ink(2, 1);
        x.slides(0);
        int[][] told = {{4, 9, 0, 0}, {8, 0, 1, 0b101}};
        for (int way = 0; way < 2; way++) {
            for (int what = 0; what < 4; what++) {
                due.is("about " + way + " " + what, told[way][what], x.about(way, what));
            }
        }
        for (int i = 3; i < 8; i++) {
            x.one(ONE, 0, 0);
        }
        x.ink(7, 1);
        due.is("eight people, the last has it", 0b10000101, x.about(1, 3));
        due.is("about what -1", BAD, x.about(0, -1));
        due.is("about what 4", BAD, x.about(0, 4));
        due.is("about no way", BAD, x.about(2, 0));
        due.is("about way -1", BAD, x.about(-1, 0));
        due.is("about the lowest", BAD, x.about(LOW, LOW));
    }

    private static void slidingWays() {
        TattooRoads x = new TattooRoads();
        due.is("slides without ways", BAD, x.slides(0));
        x.way(0, 1);
        x.way(0, 1);
        due.is("slides", 1, x.slides(1));
        due.is("does not stand", 0, x.about(1, 2));
        due.is("the other stands", 1, x.land(4));
        due.is("stands again", 0, x.slides(1));
        due.is("both stand", 3, x.land(4));
        due.is("slides none", BAD, x.slides(2));
        due.is("slides -1", BAD, x.slides(-1));
        due.is("slides 32", BAD, x.slides(32));
    }

    private static void thoseInAPlace() {
        TattooRoads x = new TattooRoads();
        due.is("nobody", 0, x.at(0));
        for (int i = 0; i < 8; i++) {
            x.one(ONE, i % 3 == 0 ? 9 : 0, 0);
        }
        due.is("at 9", 0b01001001, x.at(9));
        due.is("at 0", 0b10110110, x.at(0));
        due.is("at 5", 0, x.at(5));
        due.is("at 10", BAD, x.at(10));
        due.is("at -1", BAD, x.at(-1));
    }

    private static void rules() {
        TattooRoads x = new TattooRoads();
        due.is("wanders", 60, x.rule(0, 100));
        due.is("slips", 10, x.rule(1, 0));
        due.is("wanders again", 100, x.rule(0, 7));
        due.is("slips again", 0, x.rule(1, 100));
        int[][] wrong = {{0, 101}, {0, -1}, {1, 101}, {1, -1}, {2, 0}, {-1, 0}, {LOW, HIGH}, {0, LOW}};
        for (int[] w : wrong) {
            due.is("rule wrong " + w[0] + " " + w[1], BAD, x.rule(w[0], w[1]));
        }
        due.is("wanders stay", 7, x.count(3));
        due.is("slips stay", 100, x.count(4));
    }

    private static void dealing() {
        TattooRoads x = new TattooRoads();
        for (int i = 0; i < 5; i++) {
            x.way(i, i + 1);
        }
        x.one(ELDER, 9, 90);
        due.is("deal 0", BAD, x.deal(0));
        due.is("deal 9", BAD, x.deal(9));
        due.is("deal -1", BAD, x.deal(-1));
        due.is("no draws when refused", 1, x.count(8));
        due.is("deal 2", 2, x.deal(2));
        Draws draws = new Draws(1);
        for (int one = 1; one <= 2; one++) {
            due.is("drawn kind " + one, draws.next() % 6, x.told(one, 0));
            due.is("drawn place " + one, draws.next() % 10, x.told(one, 1));
            due.is("drawn age " + one, draws.next() % 80, x.told(one, 2));
            due.is("drawn skin " + one, draws.next() & 0b11111, x.told(one, 3));
        }
        due.is("z after two", draws.z, x.count(8));
        due.is("deal 8, room for 5", 5, x.deal(8));
        due.is("no draws for others", Draws.after(1, 28), x.count(8));
        due.is("deal when full", 0, x.deal(1));
        due.is("no draws when full", Draws.after(1, 28), x.count(8));
        due.is("the first stays", 909, x.told(0, 1) * 100 + x.told(0, 2) / 10);
    }

    private static void seeding() {
        TattooRoads x = new TattooRoads();
        due.is("seed", 1, x.seed(LOW));
        due.is("seed again", LOW, x.seed(-7));
        due.is("z", -7, x.count(8));
        x.rule(0, 0);
        x.rule(1, 0);
        x.days(1);
        due.is("a draw wraps", -7 * 1103515245 + 12345, x.count(8));
    }
}
