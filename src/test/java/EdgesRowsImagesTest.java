/** Promises 44 to 48, AN IMAGE and THE DAYS TOLD of part 5: each boundary case has a test of its own. */
public final class EdgesRowsImagesTest extends Edges {
    public static void main(String[] args) throws ReflectiveOperationException {
        run(EdgesRowsImagesTest.class, 44, 48);
    }

    /** One who walks to and fro each day, an IMAGE of which is kept: THE DAYS TOLD are 1 1, 2 1, 3 1 .. */
    private static TattooRoads kept() {
        TattooRoads x = ways(restless(), 1);
        x.one(GUIDE, 0, 0);
        inked(x, 0, 0);
        x.keep();
        return x;
    }

    private static TattooRoads keptOn(int day) {
        TattooRoads x = kept();
        while (x.count(1) < day) {
            x.days(Math.min(100, day - x.count(1)));
        }
        x.keep();
        return x;
    }

    private static void tellDays(TattooRoads x, int walked, int n) {
        for (int i = 1; i <= n; i++) {
            tell(x, walked + i, 1);
        }
    }

    // ---- promise 44: tell

    static void p44_howManyWait() {
        TattooRoads x = fresh();
        for (int i = 1; i <= 60; i++) {
            is(i, x.tell(0));
        }
    }

    static void p44_sixtyAtMost() {
        TattooRoads x = fresh();
        for (int i = 1; i < 60; i++) {
            x.tell(0);
        }
        is(60, x.tell(5));
        is(FULL, x.tell(5));
        is(60, x.count(6));
    }

    static void p44_anyNumber() {
        TattooRoads x = fresh();
        is(1, x.tell(LOW));
        is(2, x.tell(HIGH));
        is(3, x.tell(NONE));
        is(4, x.tell(FULL));
    }

    static void p44_from1AgainBehindACheck() {
        TattooRoads x = kept();
        tell(x, 1, 2, 3);
        x.check(1);
        is(1, x.tell(0));
    }

    static void p44_fullTheFirstSixtyWait() {
        TattooRoads x = kept();
        tellDays(x, 0, 30);
        is(FULL, x.tell(99));
        is(0, x.check(30));
    }

    // ---- promise 45: check

    static void p45_nBelow1() {
        is(BAD, kept().check(0));
        is(BAD, kept().check(-1));
        is(BAD, kept().check(LOW));
    }

    static void p45_nAbove30() {
        is(BAD, kept().check(31));
        is(BAD, kept().check(HIGH));
    }

    static void p45_n1() {
        TattooRoads x = kept();
        tell(x, 1, 1);
        is(0, x.check(1));
    }

    static void p45_n30() {
        TattooRoads x = kept();
        tellDays(x, 0, 30);
        is(0, x.check(30));
    }

    static void p45_noImage() {
        is(NO, fresh().check(1));
        is(NO, fresh().check(30));
    }

    static void p45_badStandsAheadOfNo() {
        is(BAD, fresh().check(0));
        is(BAD, fresh().check(31));
    }

    static void p45_noneWaitBehind0() {
        TattooRoads x = kept();
        tell(x, 1, 1);
        x.check(1);
        is(0, x.count(6));
    }

    static void p45_noneWaitBehindAFault() {
        TattooRoads x = kept();
        tell(x, 9, 9, 9);
        is(1, x.check(1));
        is(0, x.count(6));
    }

    static void p45_noneWaitBehindBad() {
        TattooRoads x = kept();
        tell(x, 1, 1);
        is(BAD, x.check(0));
        is(0, x.count(6));
        tell(x, 1, 1);
        is(BAD, x.check(31));
        is(0, x.count(6));
    }

    static void p45_noneWaitBehindNo() {
        TattooRoads x = fresh();
        tell(x, 1, 1);
        is(NO, x.check(1));
        is(0, x.count(6));
    }

    static void p45_noneWaits() {
        is(1, kept().check(1));
        is(1, kept().check(30));
    }

    static void p45_theFirstIsNot() {
        TattooRoads x = kept();
        tell(x, 0, 1);
        is(1, x.check(1));
    }

    static void p45_theSecondIsNot() {
        TattooRoads x = kept();
        tell(x, 1, 0);
        is(2, x.check(1));
    }

    static void p45_theThirdIsNot() {
        TattooRoads x = kept();
        tell(x, 1, 1, 1, 1);
        is(3, x.check(2));
    }

    static void p45_theLastOf60IsNot() {
        TattooRoads x = kept();
        tellDays(x, 0, 29);
        tell(x, 30, 2);
        is(60, x.check(30));
    }

    static void p45_missingWhereTheSameWaitedBefore() {
        TattooRoads x = kept();
        tell(x, 1, 1, 2, 1);
        is(0, x.check(2));
        is(1, x.check(2));
        tell(x, 1);
        is(2, x.check(2));
        tell(x, 1, 1);
        is(3, x.check(2));
        tell(x, 1, 1, 2);
        is(4, x.check(2));
    }

    static void p45_theSecondIsMissing() {
        TattooRoads x = kept();
        tell(x, 1);
        is(2, x.check(1));
    }

    static void p45_theThirdIsMissing() {
        TattooRoads x = kept();
        tell(x, 1, 1);
        is(3, x.check(2));
    }

    static void p45_theLastOf60IsMissing() {
        TattooRoads x = kept();
        tellDays(x, 0, 29);
        tell(x, 30);
        is(60, x.check(30));
    }

    static void p45_oneTooMany() {
        TattooRoads x = kept();
        tell(x, 1, 1, 2);
        is(3, x.check(1));
    }

    static void p45_manyTooMany() {
        TattooRoads x = kept();
        tellDays(x, 0, 30);
        is(3, x.check(1));
    }

    static void p45_oneThatIsNotAheadOfOneTooMany() {
        TattooRoads x = kept();
        tell(x, 1, 5, 2);
        is(2, x.check(1));
    }

    static void p45_fewerIfTheDayWouldBeAbove9999() {
        TattooRoads x = keptOn(9998);
        tell(x, 9999, 1);
        is(0, x.check(30));
        tell(x, 9999, 1);
        is(0, x.check(1));
        tell(x, 9999, 1, 10000, 1);
        is(3, x.check(2));
    }

    static void p45_justUpTo9999() {
        TattooRoads x = keptOn(9969);
        tellDays(x, 9969, 30);
        is(0, x.check(30));
        x = keptOn(9970);
        tellDays(x, 9970, 29);
        is(0, x.check(30));
    }

    static void p45_noDayIsLeft() {
        TattooRoads x = keptOn(9999);
        is(0, x.check(1));
        is(0, x.check(30));
        tell(x, 10000);
        is(1, x.check(1));
    }

    static void p45_byTheImageNotByNow() {
        TattooRoads x = kept();
        x.days(50);
        x.seed(5);
        x.slides(0);
        x.scar(0, 0);
        x.rule(0, 0);
        tellDays(x, 0, 3);
        is(0, x.check(3));
    }

    static void p45_byTheDayOfTheImageNotOfNow() {
        TattooRoads x = keptOn(9900);
        x.days(99);
        tellDays(x, 9900, 30);
        is(0, x.check(30));
    }

    static void p45_nothingElseChanges() {
        TattooRoads x = kept();
        x.check(30);
        is(0, x.count(1));
        is(1, x.count(8));
        is(0, x.land(0));
        is(0, x.told(0, 1));
        x.back();
        is(0, x.count(1));
        is(1, x.count(8));
    }

    static void p45_bySeveralTimesTheSame() {
        TattooRoads x = kept();
        for (int i = 0; i < 3; i++) {
            tellDays(x, 0, 4);
            is(0, x.check(4));
        }
    }

    static void p45_ofAnEmptyLand() {
        TattooRoads x = fresh();
        x.keep();
        tell(x, 0, 0, 0, 0);
        is(0, x.check(2));
    }

    // ---- promise 46: keep

    static void p46_nobody() {
        is(0, fresh().keep());
    }

    static void p46_eight() {
        is(8, people(fresh(), 8, 0).keep());
    }

    static void p46_theLastOneCounts() {
        TattooRoads x = people(fresh(), 1, 0);
        x.keep();
        people(x, 1, 0);
        is(2, x.keep());
        people(x, 1, 0);
        is(2, x.back());
    }

    static void p46_nothingChanges() {
        TattooRoads x = kept();
        x.tell(1);
        x.feed(1, 2, 3);
        x.keep();
        is(1, x.count(6));
        is(12, x.count(7));
        is(1, x.count(0));
        is(1, x.count(8));
    }

    // ---- promise 47: back

    static void p47_noImage() {
        TattooRoads x = people(fresh(), 2, 0);
        is(NO, x.back());
        is(2, x.count(0));
    }

    static void p47_toNobody() {
        TattooRoads x = fresh();
        x.keep();
        people(x, 8, 0);
        ways(x, 14);
        is(0, x.back());
        is(0, x.count(0));
        is(0, x.count(2));
    }

    static void p47_againAndAgain() {
        TattooRoads x = kept();
        for (int i = 0; i < 5; i++) {
            x.days(i + 1);
            is(1, x.back());
            is(0, x.count(1));
            is(0, x.land(0));
            is(0, x.told(0, 1));
        }
    }

    static void p47_whenAllIsAsItIs() {
        TattooRoads x = kept();
        is(1, x.back());
        is(1, x.back());
    }

    static void p47_fromTheLastDay() {
        TattooRoads x = keptOn(9950);
        x.days(100);
        is(0, x.days(1));
        x.back();
        is(9950, x.count(1));
        is(49, x.days(100));
    }

    static void p47_thePeople() {
        TattooRoads x = fresh();
        x.one(ELDER, 4, 44);
        x.keep();
        x.turns(0, TWIN);
        x.set(0, 1, 5);
        x.set(0, 2, 55);
        x.back();
        is(ELDER, x.told(0, 0));
        is(4, x.told(0, 1));
        is(44, x.told(0, 2));
    }

    static void p47_theLastOfEight() {
        TattooRoads x = inked(ways(people(people(fresh(), 7, 0), 1, 9), 14), 7, 13);
        x.set(7, 2, 99);
        x.turns(7, FORGER);
        x.keep();
        x.set(7, 1, 1);
        x.set(7, 2, 1);
        x.scar(7, 13);
        x.turns(7, ONE);
        x.back();
        is(FORGER, x.told(7, 0));
        is(9, x.told(7, 1));
        is(99, x.told(7, 2));
        is(1 << 13, x.told(7, 3));
    }

    static void p47_theSkins() {
        TattooRoads x = kept();
        x.scar(0, 0);
        x.back();
        is(1, x.told(0, 3));
    }

    static void p47_theLastOfFourteenWays() {
        TattooRoads x = ways(people(fresh(), 1, 7), 13);
        x.way(7, 8);
        inked(x, 0, 13);
        x.slides(13);
        x.keep();
        x.slides(13);
        x.back();
        is(7, x.about(13, 0));
        is(8, x.about(13, 1));
        is(0, x.about(13, 2));
        is(1, x.about(13, 3));
    }

    static void p47_waysThatCameSinceAreGone() {
        TattooRoads x = fresh();
        x.one(FORGER, 2, 0);
        ways(x, 1);
        x.keep();
        x.way(2, 3);
        is(0b1100, x.reach(0));
        x.back();
        is(BAD, x.about(1, 0));
        is(1, x.land(4));
        is(0b100, x.reach(0));
        is(1, x.way(4, 5));
        is(0, x.told(0, 4));
    }

    static void p47_otherWaysCameInTheirStead() {
        TattooRoads x = fresh();
        x.keep();
        ways(x, 14);
        x.back();
        x.way(5, 6);
        x.keep();
        x.back();
        is(5, x.about(0, 0));
        is(6, x.about(0, 1));
    }

    static void p47_waysThatTouchTheLastPlace() {
        TattooRoads x = fresh();
        x.one(CHILD, 9, 0);
        x.way(9, 0);
        inked(x, 0, 0);
        x.keep();
        x.back();
        is(1, x.told(0, 4));
        is(0b1000000001, x.reach(0));
        x.way(9, 1);
        x.ink(0, 1);
        x.back();
        is(1, x.told(0, 4));
    }

    static void p47_wandersAndSlips() {
        TattooRoads x = fresh();
        x.rule(0, 11);
        x.rule(1, 22);
        x.keep();
        x.rule(0, 99);
        x.rule(1, 98);
        x.back();
        is(11, x.count(3));
        is(22, x.count(4));
    }

    static void p47_walkedInkedFaded() {
        TattooRoads x = ways(people(restless(), 1, 0), 1);
        x.one(GUIDE, 0, 0);
        inked(x, 1, 0);
        x.set(0, 2, 9);
        x.days(1);
        x.keep();
        x.set(0, 2, 9);
        x.days(3);
        x.back();
        is(2, x.land(0));
        is(1, x.land(1));
        is(1, x.land(2));
    }

    static void p47_z() {
        TattooRoads x = fresh();
        x.seed(LOW);
        x.keep();
        x.seed(7);
        x.back();
        is(LOW, x.count(8));
    }

    static void p47_theTexts() {
        TattooRoads x = fresh();
        Tapes.tell(x, "fee 1");
        x.keep();
        Tapes.tell(x, "fee 2");
        Tapes.tell(x, "urge 3");
        x.back();
        is(1, x.count(5));
        is(0, x.why(1));
        is(NONE, x.why(0));
        is(1, x.fee());
        is(BAD, x.textTold(1, 0));
    }

    static void p47_theTextOfEachKey() {
        String[] keys = {"urge", "fee", "fine"};
        for (int key = 0; key < 3; key++) {
            TattooRoads x = fresh();
            Tapes.tell(x, keys[key] + " 1");
            x.keep();
            Tapes.tell(x, keys[key] + " 2");
            is(1, x.why(key));
            x.back();
            is(0, x.why(key));
        }
    }

    static void p47_otherTextsCameInTheirStead() {
        TattooRoads x = fresh();
        Tapes.tell(x, "fee 1");
        x.keep();
        Tapes.tell(x, "fee 2+2");
        x.back();
        is(1, Tapes.tell(x, "fine 3"));
        is(2, x.textTold(1, 0));
        is(1, x.textTold(1, 1));
        is(1, x.fee());
        x.back();
        is(0, x.why(1));
        is(1, x.fee());
    }

    static void p47_fourteenTextsAgain() {
        TattooRoads x = fresh();
        for (int i = 0; i < 13; i++) {
            Tapes.tell(x, "fee 1");
        }
        x.keep();
        is(13, Tapes.tell(x, "fee 2"));
        is(FULL, Tapes.tell(x, "fee 3"));
        x.back();
        is(13, Tapes.tell(x, "fee 4"));
        is(4, x.fee());
    }

    static void p47_sheetsStayAsTheyAre() {
        TattooRoads x = row(fresh(), 0, 0, 1);
        x.keep();
        row(x, 0, 0, 5, 6);
        row(x, 1, 1, NONE);
        x.back();
        rowIs(x, 0, 5, 6);
        rowIs(x, 1, KIND);
    }

    static void p47_slotsStayAsTheyAre() {
        TattooRoads x = fresh();
        x.keep();
        x.lay(0, 3, 17);
        x.back();
        is(7, x.rest(0, 10));
    }

    static void p47_numbersThatWaitStay() {
        TattooRoads x = kept();
        tell(x, 1, 1);
        x.back();
        is(2, x.count(6));
        is(0, x.check(1));
    }

    static void p47_theTapeStays() {
        TattooRoads x = fresh();
        x.keep();
        Tapes.feed(x, "fee 7");
        x.back();
        is(5, x.count(7));
        is(0, x.text());
        is(7, x.fee());
    }

    static void p47_whatComesBehindItDoesNotChangeTheImage() {
        TattooRoads x = kept();
        x.back();
        x.scar(0, 0);
        x.slides(0);
        x.days(9);
        x.set(0, 1, 7);
        x.back();
        is(1, x.told(0, 3));
        is(1, x.land(4));
        is(0, x.told(0, 1));
        is(0, x.told(0, 2));
    }

    // ---- promise 48: count

    static void p48_whatBelow0() {
        is(BAD, fresh().count(-1));
        is(BAD, fresh().count(LOW));
    }

    static void p48_whatAbove8() {
        is(BAD, fresh().count(9));
        is(BAD, fresh().count(HIGH));
    }

    static void p48_atMost() {
        TattooRoads x = ways(people(fresh(), 8, 0), 14);
        x.rule(0, 100);
        x.rule(1, 100);
        for (int i = 0; i < 14; i++) {
            Tapes.tell(x, "fee 1");
        }
        for (int i = 0; i < 60; i++) {
            x.tell(0);
        }
        for (int i = 0; i < 8; i++) {
            x.feed(0, 0, 0);
        }
        x.seed(HIGH);
        int[] most = {8, 0, 14, 100, 100, 14, 60, 96, HIGH};
        for (int what = 0; what <= 8; what++) {
            is(most[what], x.count(what));
        }
    }

    static void p48_theDayAtMost() {
        is(9999, keptOn(9999).count(1));
    }

    static void p48_zBelow0() {
        TattooRoads x = fresh();
        x.seed(-5);
        is(-5, x.count(8));
    }
}
