/** Promises 16 to 22, parts 2 and 3: each boundary case has a test of its own. */
public final class EdgesDaysTest extends Edges {
    public static void main(String[] args) throws ReflectiveOperationException {
        run(EdgesDaysTest.class, 16, 22);
    }

    // ---- promise 16: days

    static void p16_nBelow1() {
        is(BAD, fresh().days(0));
        is(BAD, fresh().days(-1));
        is(BAD, fresh().days(LOW));
    }

    static void p16_nAbove100() {
        is(BAD, fresh().days(101));
        is(BAD, fresh().days(HIGH));
    }

    static void p16_n1And100() {
        TattooRoads x = fresh();
        is(0, x.days(1));
        is(1, x.count(1));
        is(0, x.days(100));
        is(101, x.count(1));
    }

    static void p16_refusedNoDayNoDraw() {
        TattooRoads x = people(fresh(), 1, 0);
        x.days(0);
        x.days(101);
        is(0, x.count(1));
        is(1, x.count(8));
        is(0, x.told(0, 2));
    }

    /** One who walks to and fro each day, on THE DAY 9900 and so many more. */
    private static TattooRoads late(int more) {
        TattooRoads x = ways(restless(), 1);
        x.one(GUIDE, 0, 99);
        x.ink(0, 0);
        for (int i = 0; i < 99; i++) {
            x.days(100);
        }
        if (more > 0) {
            x.days(more);
        }
        return x;
    }

    static void p16_upTo9999() {
        TattooRoads x = late(0);
        is(9900, x.count(1));
        is(99, x.days(99));
        is(9999, x.count(1));
    }

    static void p16_noMoreThanUpTo9999() {
        TattooRoads x = late(0);
        is(99, x.days(100));
        is(9999, x.count(1));
        is(9999, x.land(0));
    }

    static void p16_noneIsLeft() {
        TattooRoads x = late(99);
        int z = x.count(8);
        is(0, x.days(1));
        is(0, x.days(100));
        is(9999, x.count(1));
        is(z, x.count(8));
        is(99, x.told(0, 2));
    }

    static void p16_badStandsOnTheLastDay() {
        TattooRoads x = late(99);
        is(BAD, x.days(0));
        is(BAD, x.days(101));
    }

    static void p16_byHowMuchMoreNotHowMany() {
        TattooRoads x = late(0);
        is(9900, x.land(0));
        is(1, x.days(1));
        is(9901, x.land(0));
    }

    // ---- a day, (1): people go

    static void p16_oneDrawOfEachAndOneOfSlips() {
        TattooRoads x = people(still(), 8, 0);
        x.days(1);
        is(Draws.after(1, 9), x.count(8));
    }

    static void p16_noPeopleOneDraw() {
        TattooRoads x = ways(still(), 1);
        x.days(1);
        is(Draws.after(1, 1), x.count(8));
    }

    static void p16_oneMoreDrawWithWays() {
        TattooRoads x = ways(people(restless(), 8, 0), 1);
        x.days(1);
        is(Draws.after(1, 17), x.count(8));
    }

    static void p16_noMoreDrawWithoutWays() {
        TattooRoads x = people(restless(), 8, 0);
        x.rule(1, 100);
        x.days(1);
        is(Draws.after(1, 9), x.count(8));
    }

    private static TattooRoads walker(int seed, int wanders) {
        TattooRoads x = inked(ways(people(still(), 1, 0), 1), 0, 0);
        x.rule(0, wanders);
        x.seed(seed);
        return x;
    }

    static void p16_restIsJustTheUrge() {
        is(0, walker(seedOfRest(50), 50).days(1));
    }

    static void p16_restIsOneBelowTheUrge() {
        is(1, walker(seedOfRest(49), 50).days(1));
    }

    static void p16_rest0AndUrge0() {
        is(0, walker(seedOfRest(0), 0).days(1));
    }

    static void p16_rest0AndUrge1() {
        is(1, walker(seedOfRest(0), 1).days(1));
    }

    static void p16_rest99AndUrge99() {
        is(0, walker(seedOfRest(99), 99).days(1));
    }

    static void p16_rest99AndUrge100() {
        is(1, walker(seedOfRest(99), 100).days(1));
    }

    static void p16_noDrawMoreIfItDoesNotGo() {
        TattooRoads x = walker(seedOfRest(50), 50);
        x.days(1);
        is(Draws.after(seedOfRest(50), 2), x.count(8));
    }

    static void p16_theWayIsTheRestByHowManyThereAre() {
        for (int many = 1; many <= 14; many++) {
            TattooRoads x = ways(people(restless(), 1, 0), many);
            for (int way = 0; way < many; way++) {
                Draws draws = new Draws(77 + way);
                draws.next();
                x.seed(77 + way);
                x.set(0, 1, 0);
                x.ink(0, draws.next() % many);
                is(1, x.days(1));
                x.set(0, 2, 0);
                for (int i = 0; i < many; i++) {
                    x.scar(0, i);
                }
            }
        }
    }

    static void p16_fromFromToTo() {
        TattooRoads x = inked(ways(people(restless(), 1, 0), 1), 0, 0);
        is(1, x.days(1));
        is(1, x.told(0, 1));
    }

    static void p16_fromToToFrom() {
        TattooRoads x = inked(ways(people(restless(), 1, 1), 1), 0, 0);
        is(1, x.days(1));
        is(0, x.told(0, 1));
    }

    static void p16_aWayThatDoesNotTouch() {
        TattooRoads x = inked(ways(people(restless(), 1, 2), 1), 0, 0);
        is(0, x.days(1));
        is(2, x.told(0, 1));
    }

    static void p16_aWayThatDoesNotStand() {
        TattooRoads x = inked(ways(people(restless(), 1, 0), 1), 0, 0);
        x.slides(0);
        is(0, x.days(1));
        is(0, x.told(0, 1));
    }

    static void p16_aWayThatNobodyReads() {
        TattooRoads x = ways(people(restless(), 2, 0), 1);
        is(0, x.days(1));
        is(0, x.told(0, 1));
    }

    static void p16_oneElsewhereDoesNotLead() {
        TattooRoads x = ways(people(people(restless(), 1, 0), 1, 2), 1);
        inked(x, 1, 0);
        is(0, x.days(1));
    }

    static void p16_oneWhoIsThereLeads() {
        TattooRoads x = ways(people(restless(), 2, 0), 1);
        inked(x, 1, 0);
        is(2, x.days(1));
        is(1, x.told(0, 1));
        is(1, x.told(1, 1));
    }

    static void p16_byNumbersTheFirstIsGoneThen() {
        TattooRoads x = ways(people(restless(), 2, 0), 1);
        inked(x, 0, 0);
        is(1, x.days(1));
        is(1, x.told(0, 1));
        is(0, x.told(1, 1));
    }

    static void p16_byNumbersTheFirstHasComeThen() {
        TattooRoads x = ways(people(people(restless(), 1, 0), 1, 1), 1);
        inked(x, 0, 0);
        is(2, x.days(1));
        is(1, x.told(0, 1));
        is(0, x.told(1, 1));
    }

    static void p16_whoWasInkedTodayLeadsToday() {
        // 1 leads 0 to PLACE 1, then is led by nobody but itself; 2 waits there and is led by 0
        TattooRoads x = ways(people(people(restless(), 2, 0), 1, 1), 1);
        inked(x, 1, 0);
        is(3, x.days(1));
        is(1, x.told(0, 3));
        is(0, x.told(2, 1));
    }

    static void p16_anElderLeadsNotByWay0() {
        TattooRoads x = ways(restless(), 1);
        x.one(ELDER, 0, 0);
        inked(x, 0, 0);
        is(0, x.days(1));
    }

    static void p16_aChildReadsAtThePlaceWhereItIs() {
        TattooRoads x = ways(restless(), 1);
        x.one(CHILD, 0, 0);
        inked(x, 0, 0);
        is(1, x.days(1));
        is(1, x.days(1));
        is(0, x.told(0, 1));
    }

    static void p16_aForgerLeadsByAnOddWayWithoutASkin() {
        TattooRoads x = ways(restless(), 2);
        x.one(FORGER, 0, 0);
        int seed = 0;
        while (new Draws(Draws.after(seed, 1)).next() % 2 == 0) {
            seed++;
        }
        x.seed(seed);
        is(1, x.days(1));
        is(2, x.told(0, 3));
    }

    static void p16_aChildDoesNotLearn() {
        int[] learns = {1, 1, 0, 1, 0, 1};
        for (int kind = 0; kind < 6; kind++) {
            TattooRoads x = ways(restless(), 1);
            x.one(kind, 0, 0);
            x.one(GUIDE, 0, 0);
            inked(x, 1, 0);
            is(2, x.days(1));
            is(learns[kind], x.told(0, 3));
            is(learns[kind], x.land(1));
        }
    }

    static void p16_whatItHasIsNotInkedAgain() {
        TattooRoads x = inked(ways(people(restless(), 1, 0), 1), 0, 0);
        is(5, x.days(5));
        is(0, x.land(1));
    }

    static void p16_whatItHadItHasBesides() {
        TattooRoads x = people(restless(), 2, 0);
        x.way(0, 1);
        x.way(2, 3);
        inked(inked(x, 0, 1), 1, 0);
        int seed = 0;
        while (new Draws(Draws.after(seed, 1)).next() % 2 != 0) {
            seed++;
        }
        x.seed(seed);
        x.days(1);
        is(1, x.told(0, 1));
        is(3, x.told(0, 3));
        is(1, x.land(1));
    }

    static void p16_whoDoesNotGoIsNotInked() {
        TattooRoads x = ways(people(people(restless(), 1, 2), 1, 2), 1);
        inked(x, 1, 0);
        is(0, x.days(1));
        is(0, x.told(0, 3));
        is(0, x.land(1));
    }

    static void p16_urgeByItsPlaceOfThatMoment() {
        TattooRoads x = inked(ways(people(still(), 1, 0), 1), 0, 0);
        Tapes.tell(x, "urge (o=0)*100");
        is(1, x.days(20));
        is(1, x.told(0, 1));
    }

    static void p16_urgeByItsAgeOfThatMorning() {
        TattooRoads x = inked(ways(people(still(), 1, 0), 1), 0, 0);
        Tapes.tell(x, "urge (a=1)*100");
        is(1, x.days(5));
    }

    // ---- a day, (2): people age and fade

    private static TattooRoads aged(int kind, int age, int... skin) {
        TattooRoads x = ways(still(), 14);
        x.one(kind, 9, age);
        return inked(x, 0, skin);
    }

    static void p16_ageIs1More() {
        TattooRoads x = aged(ONE, 0);
        x.days(1);
        is(1, x.told(0, 2));
    }

    static void p16_ageIs99AtMost() {
        TattooRoads x = aged(ONE, 98);
        x.days(1);
        is(99, x.told(0, 2));
        x.days(1);
        is(99, x.told(0, 2));
    }

    static void p16_nothingFadesAt99() {
        TattooRoads x = aged(ONE, 99, 0);
        x.days(100);
        is(1, x.told(0, 3));
        is(0, x.land(2));
    }

    static void p16_from9To10Fades() {
        TattooRoads x = aged(ONE, 9, 0);
        x.days(1);
        is(0, x.told(0, 3));
        is(1, x.land(2));
    }

    static void p16_from10To11FadesNothing() {
        TattooRoads x = aged(ONE, 10, 0);
        x.days(1);
        is(1, x.told(0, 3));
    }

    static void p16_from0To1FadesNothing() {
        TattooRoads x = aged(ONE, 0, 0);
        x.days(1);
        is(1, x.told(0, 3));
    }

    static void p16_from8To9FadesNothing() {
        TattooRoads x = aged(ONE, 8, 0);
        x.days(1);
        is(1, x.told(0, 3));
    }

    static void p16_from89To90Fades() {
        TattooRoads x = aged(ONE, 89, 13);
        x.days(1);
        is(0, x.told(0, 3));
    }

    static void p16_theLeastWayFades() {
        TattooRoads x = aged(ONE, 9, 13, 5, 7);
        x.days(1);
        is(1 << 13 | 1 << 7, x.told(0, 3));
    }

    static void p16_anElderLosesTwo() {
        TattooRoads x = aged(ELDER, 9, 13, 5, 7);
        x.days(1);
        is(1 << 13, x.told(0, 3));
        is(2, x.land(2));
    }

    static void p16_asManyAsItHasAtMost() {
        TattooRoads x = aged(ELDER, 9, 13);
        x.days(1);
        is(0, x.told(0, 3));
        is(1, x.land(2));
    }

    static void p16_noneToLose() {
        TattooRoads x = aged(ELDER, 9);
        x.days(1);
        is(0, x.told(0, 3));
        is(0, x.land(2));
    }

    static void p16_aGuideLosesNone() {
        TattooRoads x = aged(GUIDE, 9, 0);
        x.days(81);
        is(1, x.told(0, 3));
        is(0, x.land(2));
    }

    static void p16_othersLoseOne() {
        int[] kinds = {ONE, CHILD, TWIN, FORGER};
        for (int kind : kinds) {
            TattooRoads x = aged(kind, 9, 0, 1, 2);
            x.days(1);
            is(6, x.told(0, 3));
            is(1, x.land(2));
        }
    }

    static void p16_whatWasInkedTodayMayFadeToday() {
        TattooRoads x = ways(restless(), 1);
        x.one(ONE, 0, 9);
        x.one(GUIDE, 0, 9);
        inked(x, 1, 0);
        is(2, x.days(1));
        is(0, x.told(0, 3));
        is(1, x.land(1));
        is(1, x.land(2));
    }

    static void p16_whatFadesTodayIsReadToday() {
        TattooRoads x = ways(restless(), 1);
        x.one(CHILD, 0, 9);
        inked(x, 0, 0);
        is(1, x.days(1));
        is(0, x.told(0, 3));
        is(0, x.days(1));
    }

    // ---- a day, (3): a way slides or stands again

    private static TattooRoads slipping(int seed, int slips, int ways) {
        TattooRoads x = ways(still(), ways);
        x.rule(1, slips);
        x.seed(seed);
        x.days(1);
        return x;
    }

    static void p16_restIsJustSlips() {
        is(1, slipping(seedOfRest(10), 10, 1).land(4));
    }

    static void p16_restIsOneBelowSlips() {
        is(0, slipping(seedOfRest(9), 10, 1).land(4));
    }

    static void p16_rest0AndSlips0() {
        is(1, slipping(seedOfRest(0), 0, 1).land(4));
    }

    static void p16_rest99AndSlips100() {
        is(0, slipping(seedOfRest(99), 100, 1).land(4));
    }

    static void p16_slipsDrawOnceMoreWithWays() {
        is(Draws.after(5, 2), slipping(5, 100, 1).count(8));
    }

    static void p16_slipsDrawNoMoreWithoutWays() {
        is(Draws.after(5, 1), slipping(5, 100, 0).count(8));
    }

    static void p16_theWayThatSlipsIsTheRest() {
        for (int seed = 0; seed < 30; seed++) {
            Draws draws = new Draws(Draws.after(seed, 1));
            is(0x3FFF & ~(1 << draws.next() % 14), slipping(seed, 100, 14).land(4));
        }
    }

    static void p16_oneThatDidNotStandStands() {
        TattooRoads x = slipping(5, 100, 1);
        is(0, x.land(4));
        x.days(1);
        is(1, x.land(4));
    }

    static void p16_whoGoesTodayGoesAheadOfTheSlip() {
        TattooRoads x = inked(ways(people(restless(), 1, 0), 1), 0, 0);
        x.rule(1, 100);
        is(1, x.days(1));
        is(0, x.land(4));
        is(0, x.days(1));
        is(1, x.land(4));
    }

    // ---- promise 17: land

    static void p17_whatBelow0() {
        is(BAD, fresh().land(-1));
        is(BAD, fresh().land(LOW));
    }

    static void p17_whatAbove5() {
        is(BAD, fresh().land(6));
        is(BAD, fresh().land(HIGH));
    }

    static void p17_ofAnEmptyLand() {
        for (int what = 0; what <= 5; what++) {
            is(0, fresh().land(what));
        }
    }

    static void p17_waysOfSeveralSkinsOnce() {
        TattooRoads x = ways(people(fresh(), 8, 0), 3);
        for (int one = 0; one < 8; one++) {
            x.ink(one, 1);
        }
        is(1, x.land(3));
        is(0b101, x.land(5));
    }

    static void p17_waysOfTheLastOfEight() {
        TattooRoads x = inked(ways(people(fresh(), 8, 0), 14), 7, 13);
        is(1, x.land(3));
        is(0x1FFF, x.land(5));
    }

    static void p17_waysThatNobodyHasWithoutPeople() {
        is(0x3FFF, ways(fresh(), 14).land(5));
        is(0, ways(fresh(), 14).land(3));
    }

    static void p17_noneStands() {
        TattooRoads x = ways(fresh(), 2);
        x.slides(0);
        x.slides(1);
        is(0, x.land(4));
        is(3, x.land(5));
    }

    static void p17_oneWhoIsGoneWithAnImageHasNone() {
        TattooRoads x = ways(fresh(), 1);
        x.keep();
        inked(people(x, 1, 0), 0, 0);
        is(1, x.land(3));
        x.back();
        is(0, x.land(3));
        is(1, x.land(5));
    }

    // ---- promise 18: journey

    private static TattooRoads chain() {
        TattooRoads x = people(fresh(), 1, 4);
        for (int i = 0; i < 9; i++) {
            x.way(i, i + 1);
            x.ink(0, i);
        }
        return x;
    }

    static void p18_fromBelow0() {
        is(BAD, chain().journey(1, -1, 0));
        is(BAD, chain().journey(1, LOW, 0));
    }

    static void p18_fromAbove9() {
        is(BAD, chain().journey(1, 10, 0));
        is(BAD, chain().journey(1, HIGH, 0));
    }

    static void p18_toBelow0() {
        is(BAD, chain().journey(1, 0, -1));
        is(BAD, chain().journey(1, 0, LOW));
    }

    static void p18_toAbove9() {
        is(BAD, chain().journey(1, 0, 10));
        is(BAD, chain().journey(1, 0, HIGH));
    }

    static void p18_aSetOfOthers() {
        is(BAD, chain().journey(2, 0, 1));
        is(BAD, chain().journey(3, 0, 1));
        is(BAD, people(fresh(), 8, 0).journey(256, 0, 1));
        is(BAD, fresh().journey(1, 0, 0));
    }

    static void p18_aSetBelow0() {
        is(BAD, people(fresh(), 8, 0).journey(-1, 0, 0));
        is(BAD, people(fresh(), 8, 0).journey(LOW, 0, 0));
    }

    static void p18_nobody() {
        is(NONE, chain().journey(0, 0, 1));
        is(0, chain().journey(0, 1, 1));
        is(0, fresh().journey(0, 9, 9));
    }

    static void p18_allEight() {
        TattooRoads x = inked(ways(people(fresh(), 8, 0), 1), 7, 0);
        is(1, x.journey(255, 0, 1));
        is(NONE, x.journey(127, 0, 1));
    }

    static void p18_toTheSamePlace() {
        for (int place = 0; place <= 9; place++) {
            is(0, chain().journey(1, place, place));
        }
    }

    static void p18_nineWays() {
        is(9, chain().journey(1, 0, 9));
        is(9, chain().journey(1, 9, 0));
    }

    static void p18_fewestOfSeveral() {
        TattooRoads x = chain();
        x.way(0, 8);
        is(9, x.journey(1, 0, 9));
        x.ink(0, 9);
        is(2, x.journey(1, 0, 9));
    }

    static void p18_aWayThatDoesNotStand() {
        TattooRoads x = chain();
        x.slides(4);
        is(NONE, x.journey(1, 0, 9));
        is(4, x.journey(1, 0, 4));
        is(4, x.journey(1, 9, 5));
    }

    static void p18_whereverTheyAreNow() {
        TattooRoads x = chain();
        for (int place = 0; place <= 9; place++) {
            x.set(0, 1, place);
            is(9, x.journey(1, 0, 9));
        }
    }

    static void p18_readAtThePlaceFromWhichItIsGone() {
        // a CHILD far off reads each WAY at its ends
        TattooRoads x = chain();
        x.turns(0, CHILD);
        x.set(0, 1, 9);
        is(3, x.journey(1, 0, 3));
    }

    static void p18_eachWayByAnotherOne() {
        TattooRoads x = chain();
        people(x, 1, 4);
        for (int way = 0; way < 9; way += 2) {
            x.scar(0, way);
            x.ink(1, way);
        }
        is(9, x.journey(3, 0, 9));
        is(NONE, x.journey(1, 0, 9));
        is(NONE, x.journey(2, 0, 9));
    }

    static void p18_noWays() {
        is(NONE, people(fresh(), 1, 0).journey(1, 0, 1));
    }

    // ---- promise 19: reach

    static void p19_oneBelow0() {
        is(BAD, chain().reach(-1));
        is(BAD, chain().reach(LOW));
    }

    static void p19_oneThatIsNot() {
        is(BAD, chain().reach(1));
        is(BAD, fresh().reach(0));
        is(BAD, people(fresh(), 8, 0).reach(8));
    }

    static void p19_itsOwnPlaceAlways() {
        for (int place = 0; place <= 9; place++) {
            is(1 << place, people(fresh(), 1, place).reach(0));
        }
    }

    static void p19_allTenPlaces() {
        TattooRoads x = chain();
        is(0x3FF, x.reach(0));
        x.set(0, 1, 0);
        is(0x3FF, x.reach(0));
        x.set(0, 1, 9);
        is(0x3FF, x.reach(0));
    }

    static void p19_alone() {
        TattooRoads x = inked(ways(people(fresh(), 2, 0), 1), 1, 0);
        is(1, x.reach(0));
        is(3, x.reach(1));
    }

    static void p19_byWaysThatStand() {
        TattooRoads x = chain();
        x.slides(4);
        is(0b11111, x.reach(0));
    }

    // ---- promise 20: company

    static void p20_fromBelow0() {
        is(BAD, chain().company(-1, 0, 0));
        is(BAD, chain().company(LOW, 0, 0));
    }

    static void p20_fromAbove9() {
        is(BAD, chain().company(10, 0, 0));
        is(BAD, chain().company(HIGH, 0, 0));
    }

    static void p20_toBelow0() {
        is(BAD, chain().company(0, -1, 0));
        is(BAD, chain().company(0, LOW, 0));
    }

    static void p20_toAbove9() {
        is(BAD, chain().company(0, 10, 0));
        is(BAD, chain().company(0, HIGH, 0));
    }

    static void p20_whatBelow0() {
        is(BAD, chain().company(4, 5, -1));
        is(BAD, chain().company(4, 4, LOW));
    }

    static void p20_whatAbove1() {
        is(BAD, chain().company(4, 5, 2));
        is(BAD, chain().company(4, 4, HIGH));
    }

    static void p20_badStandsAheadOfNone() {
        is(BAD, fresh().company(0, 1, 2));
        is(BAD, fresh().company(0, 10, 0));
    }

    static void p20_toTheSamePlaceNobodyIsNeeded() {
        is(0, chain().company(4, 4, 0));
        is(0, chain().company(4, 4, 1));
        is(0, fresh().company(0, 0, 0));
        is(0, fresh().company(9, 9, 1));
    }

    static void p20_nobodyIsThere() {
        is(NONE, chain().company(5, 4, 0));
        is(NONE, chain().company(5, 4, 1));
        is(NONE, fresh().company(0, 1, 1));
    }

    static void p20_thoseWhoAreThereComeNotSoFar() {
        TattooRoads x = chain();
        x.slides(8);
        is(NONE, x.company(4, 9, 0));
        is(NONE, x.company(4, 9, 1));
        is(1, x.company(4, 8, 0));
    }

    static void p20_oneElsewhereDoesNotHelp() {
        TattooRoads x = inked(ways(people(people(fresh(), 1, 0), 1, 1), 1), 1, 0);
        is(NONE, x.company(0, 1, 0));
        x.set(1, 1, 0);
        is(2, x.company(0, 1, 0));
    }

    static void p20_theFirstAlone() {
        TattooRoads x = inked(ways(people(fresh(), 8, 0), 1), 0, 0);
        is(1, x.company(0, 1, 0));
        is(1, x.company(0, 1, 1));
    }

    static void p20_theLastAlone() {
        TattooRoads x = inked(ways(people(fresh(), 8, 0), 1), 7, 0);
        is(128, x.company(0, 1, 0));
        is(1, x.company(0, 1, 1));
    }

    static void p20_ofSeveralTheLeast() {
        TattooRoads x = ways(people(fresh(), 3, 0), 1);
        inked(inked(x, 1, 0), 2, 0);
        is(2, x.company(0, 1, 0));
        is(1, x.company(0, 1, 1));
    }

    static void p20_fewerStandAheadOfLeast() {
        TattooRoads x = people(fresh(), 3, 0);
        x.way(0, 1);
        x.way(1, 2);
        inked(inked(inked(x, 0, 0), 1, 1), 2, 0, 1);
        is(4, x.company(0, 2, 0));
        is(1, x.company(0, 2, 1));
    }

    static void p20_allEight() {
        TattooRoads x = people(fresh(), 8, 0);
        for (int i = 0; i < 8; i++) {
            x.way(i, i + 1);
            x.ink(i, i);
        }
        is(255, x.company(0, 8, 0));
        is(8, x.company(0, 8, 1));
        is(127, x.company(0, 7, 0));
    }

    // ---- promise 21: regiment

    static void p21_whatBelow0() {
        is(BAD, fresh().regiment(-1));
        is(BAD, fresh().regiment(LOW));
    }

    static void p21_whatAbove1() {
        is(BAD, fresh().regiment(2));
        is(BAD, fresh().regiment(HIGH));
    }

    static void p21_noPeople() {
        is(0, ways(fresh(), 14).regiment(0));
        is(0, ways(fresh(), 14).regiment(1));
    }

    static void p21_noSkinHasAny() {
        is(0, ways(people(fresh(), 8, 0), 14).regiment(0));
        is(0, ways(people(fresh(), 8, 0), 14).regiment(1));
    }

    static void p21_allEight() {
        TattooRoads x = ways(people(fresh(), 8, 0), 14);
        for (int one = 0; one < 8; one++) {
            x.ink(one, one + 6);
        }
        is(255, x.regiment(0));
        is(8, x.regiment(1));
    }

    static void p21_ofSeveralTheLeast() {
        TattooRoads x = ways(people(fresh(), 3, 0), 1);
        inked(inked(x, 2, 0), 1, 0);
        is(2, x.regiment(0));
        is(1, x.regiment(1));
    }

    static void p21_fewerStandAheadOfLeast() {
        TattooRoads x = ways(people(fresh(), 3, 0), 2);
        inked(inked(inked(x, 0, 0), 1, 1), 2, 0, 1);
        is(4, x.regiment(0));
        is(1, x.regiment(1));
    }

    static void p21_skinsNotWhatIsRead() {
        TattooRoads x = ways(fresh(), 4);
        x.one(FORGER, 0, 0);
        x.one(ELDER, 0, 0);
        inked(x, 1, 0, 3);
        is(2, x.regiment(0));
    }

    static void p21_whereverTheyAre() {
        TattooRoads x = ways(people(people(fresh(), 1, 0), 1, 9), 2);
        inked(inked(x, 0, 0), 1, 1);
        is(3, x.regiment(0));
    }

    // ---- promise 22: dear

    static void p22_whatBelow0() {
        is(BAD, people(fresh(), 1, 0).dear(-1));
        is(BAD, people(fresh(), 1, 0).dear(LOW));
    }

    static void p22_whatAbove1() {
        is(BAD, people(fresh(), 1, 0).dear(2));
        is(BAD, people(fresh(), 1, 0).dear(HIGH));
    }

    static void p22_noPeople() {
        is(NONE, fresh().dear(0));
        is(NONE, ways(fresh(), 14).dear(1));
    }

    static void p22_badStandsAheadOfNone() {
        is(BAD, fresh().dear(2));
        is(BAD, fresh().dear(-1));
    }

    static void p22_nobodyHasAny() {
        is(0, people(fresh(), 8, 0).dear(0));
        is(0, people(fresh(), 8, 0).dear(1));
    }

    static void p22_oneAlone() {
        TattooRoads x = inked(ways(people(fresh(), 1, 0), 14), 0, 0, 13);
        is(0, x.dear(0));
        is(2, x.dear(1));
    }

    static void p22_ofSeveralTheLeast() {
        TattooRoads x = ways(people(fresh(), 3, 0), 2);
        inked(inked(x, 2, 0), 1, 1);
        is(1, x.dear(0));
        is(1, x.dear(1));
    }

    static void p22_whatAnotherHasTooDoesNotCount() {
        TattooRoads x = ways(people(fresh(), 3, 0), 4);
        inked(inked(inked(x, 0, 0, 1, 2), 1, 0, 1, 2), 2, 3);
        is(2, x.dear(0));
        is(1, x.dear(1));
    }

    static void p22_theLastOfEight() {
        TattooRoads x = inked(ways(people(fresh(), 8, 0), 14), 7, 13);
        is(7, x.dear(0));
        is(1, x.dear(1));
    }
}
