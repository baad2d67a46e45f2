/** Promises 1 to 15, "A new object" and part 1: each boundary case has a test of its own. */
public final class EdgesPeopleWaysTest extends Edges {
    public static void main(String[] args) throws ReflectiveOperationException {
        run(EdgesPeopleWaysTest.class, 1, 15);
    }

    // ---- promise 1: a new object

    static void p01_noPeople() {
        is(0, fresh().count(0));
        is(BAD, fresh().told(0, 0));
        is(0, fresh().at(0));
        is(0, fresh().at(9));
    }

    static void p01_noWays() {
        is(0, fresh().count(2));
        is(BAD, fresh().about(0, 0));
        is(0, fresh().land(4));
        is(0, fresh().land(5));
    }

    static void p01_walkedInkedFadedAre0AtFirst() {
        is(0, fresh().land(0));
        is(0, fresh().land(1));
        is(0, fresh().land(2));
        is(0, fresh().land(3));
    }

    static void p01_theDayIs0AtFirst() {
        is(0, fresh().count(1));
    }

    static void p01_wandersAre60AtFirst() {
        is(60, fresh().count(3));
    }

    static void p01_slipsAre10AtFirst() {
        is(10, fresh().count(4));
    }

    static void p01_zIs1AtFirst() {
        is(1, fresh().count(8));
    }

    static void p01_noTextAtFirst() {
        is(0, fresh().count(5));
        is(NONE, fresh().why(0));
        is(NONE, fresh().why(1));
        is(NONE, fresh().why(2));
    }

    static void p01_noNumberWaitsAtFirst() {
        is(0, fresh().count(6));
    }

    static void p01_theTapeIsEmptyAtFirst() {
        is(0, fresh().count(7));
    }

    static void p01_sheetsAreMissingAtFirst() {
        for (int sheet = 0; sheet <= 3; sheet++) {
            is(NOTHING, fresh().reads(sheet));
        }
        is(BAD, fresh().reads(4));
    }

    static void p01_slotsHoldNothingAtFirst() {
        for (int slot = 0; slot <= 4; slot++) {
            is(0, fresh().lay(slot, 0, 0));
        }
        is(BAD, fresh().lay(5, 0, 0));
    }

    static void p01_noImageAtFirst() {
        is(NO, fresh().back());
        is(NO, fresh().check(1));
    }

    static void p01_theConstants() {
        is(-1000000001, TattooRoads.BAD);
        is(-1000000002, TattooRoads.NO);
        is(-1000000003, TattooRoads.FULL);
        is(-1000000005, TattooRoads.NONE);
        is(-1000000011, TattooRoads.NOTHING);
        is(-1000000012, TattooRoads.KIND);
        is(-1000000013, TattooRoads.INDEX);
        is(-1000000014, TattooRoads.SIZE);
    }

    static void p01_oneObjectIsApartFromAnother() {
        TattooRoads x = fresh();
        TattooRoads y = fresh();
        inked(ways(people(x, 2, 3), 2), 1, 1);
        row(x, 0, 0, 5);
        x.lay(0, 3, 5);
        x.tell(5);
        x.keep();
        Tapes.tell(x, "fee 5");
        x.feed(1, 2, 3);
        x.days(5);
        int[] counts = {0, 0, 0, 60, 10, 0, 0, 0, 1};
        for (int what = 0; what < 9; what++) {
            is(counts[what], y.count(what));
        }
        is(NOTHING, y.reads(0));
        is(NOTHING, y.rest(0, 1));
        is(NO, y.back());
        is(0, y.fee());
    }

    static void p01_fiveHundredAndTwelveCalls() {
        TattooRoads x = restless();
        for (int i = 2; i < 511; i++) {
            is(0, x.days(1));
        }
        is(509, x.count(1));
    }

    // ---- promise 2: one

    static void p02_kindBelow0() {
        is(BAD, fresh().one(-1, 0, 0));
        is(BAD, fresh().one(LOW, 0, 0));
    }

    static void p02_kindAbove5() {
        is(BAD, fresh().one(6, 0, 0));
        is(BAD, fresh().one(HIGH, 0, 0));
    }

    static void p02_kinds0And5() {
        is(0, fresh().one(0, 0, 0));
        is(0, fresh().one(5, 0, 0));
    }

    static void p02_placeBelow0() {
        is(BAD, fresh().one(0, -1, 0));
        is(BAD, fresh().one(0, LOW, 0));
    }

    static void p02_placeAbove9() {
        is(BAD, fresh().one(0, 10, 0));
        is(BAD, fresh().one(0, HIGH, 0));
    }

    static void p02_places0And9() {
        TattooRoads x = fresh();
        is(0, x.one(0, 0, 0));
        is(1, x.one(0, 9, 0));
        is(0, x.told(0, 1));
        is(9, x.told(1, 1));
    }

    static void p02_ageBelow0() {
        is(BAD, fresh().one(0, 0, -1));
        is(BAD, fresh().one(0, 0, LOW));
    }

    static void p02_ageAbove99() {
        is(BAD, fresh().one(0, 0, 100));
        is(BAD, fresh().one(0, 0, HIGH));
    }

    static void p02_ages0And99() {
        TattooRoads x = fresh();
        is(0, x.one(0, 0, 0));
        is(1, x.one(0, 0, 99));
        is(0, x.told(0, 2));
        is(99, x.told(1, 2));
    }

    static void p02_eightAtMost() {
        TattooRoads x = people(fresh(), 7, 0);
        is(7, x.one(0, 0, 0));
        is(FULL, x.one(0, 0, 0));
        is(8, x.count(0));
    }

    static void p02_badStandsAheadOfFull() {
        TattooRoads x = people(fresh(), 8, 0);
        is(BAD, x.one(6, 0, 0));
        is(BAD, x.one(0, 10, 0));
        is(BAD, x.one(0, 0, 100));
    }

    static void p02_numberedFrom0() {
        TattooRoads x = fresh();
        for (int i = 0; i < 8; i++) {
            is(i, x.one(0, 0, 0));
        }
    }

    static void p02_skinIsNoneAtFirst() {
        TattooRoads x = ways(fresh(), 14);
        x.one(ONE, 0, 0);
        is(0, x.told(0, 3));
    }

    static void p02_skinIsNoneWhereOneWasBefore() {
        TattooRoads x = ways(fresh(), 2);
        x.keep();
        inked(people(x, 1, 0), 0, 0, 1);
        x.back();
        is(0, x.one(ONE, 0, 0));
        is(0, x.told(0, 3));
    }

    static void p02_refusedNobodyComes() {
        TattooRoads x = fresh();
        x.one(6, 0, 0);
        x.one(0, 10, 0);
        x.one(0, 0, 100);
        is(0, x.count(0));
        is(0, x.one(0, 0, 0));
    }

    static void p02_noDraw() {
        TattooRoads x = people(fresh(), 1, 0);
        is(1, x.count(8));
    }

    // ---- promise 3: way

    static void p03_fromBelow0() {
        is(BAD, fresh().way(-1, 0));
        is(BAD, fresh().way(LOW, 0));
    }

    static void p03_fromAbove9() {
        is(BAD, fresh().way(10, 0));
        is(BAD, fresh().way(HIGH, 0));
    }

    static void p03_toBelow0() {
        is(BAD, fresh().way(0, -1));
        is(BAD, fresh().way(0, LOW));
    }

    static void p03_toAbove9() {
        is(BAD, fresh().way(0, 10));
        is(BAD, fresh().way(0, HIGH));
    }

    static void p03_places0And9() {
        TattooRoads x = fresh();
        is(0, x.way(0, 9));
        is(1, x.way(9, 0));
        is(0, x.about(0, 0));
        is(9, x.about(0, 1));
        is(9, x.about(1, 0));
        is(0, x.about(1, 1));
    }

    static void p03_betweenOneAndTheSamePlace() {
        for (int place = 0; place <= 9; place++) {
            is(BAD, fresh().way(place, place));
        }
        is(BAD, fresh().way(10, 10));
    }

    static void p03_severalBetweenTheSameTwo() {
        TattooRoads x = fresh();
        is(0, x.way(3, 4));
        is(1, x.way(3, 4));
        is(2, x.way(4, 3));
    }

    static void p03_fourteenAtMost() {
        TattooRoads x = ways(fresh(), 13);
        is(13, x.way(8, 9));
        is(FULL, x.way(8, 9));
        is(14, x.count(2));
        is(0x3FFF, x.land(4));
    }

    static void p03_badStandsAheadOfFull() {
        TattooRoads x = ways(fresh(), 14);
        is(BAD, x.way(0, 0));
        is(BAD, x.way(10, 0));
        is(BAD, x.way(0, -1));
    }

    static void p03_standsAtFirst() {
        TattooRoads x = ways(fresh(), 14);
        is(1, x.about(0, 2));
        is(1, x.about(13, 2));
    }

    static void p03_standsWhereOneHadSlidBefore() {
        TattooRoads x = fresh();
        x.keep();
        x.way(0, 1);
        x.slides(0);
        x.back();
        is(0, x.way(2, 3));
        is(1, x.about(0, 2));
        is(2, x.about(0, 0));
    }

    static void p03_goesBothWays() {
        TattooRoads x = inked(ways(people(fresh(), 1, 0), 1), 0, 0);
        is(1, x.journey(1, 0, 1));
        is(1, x.journey(1, 1, 0));
    }

    static void p03_refusedNoWayComes() {
        TattooRoads x = fresh();
        x.way(0, 0);
        x.way(0, 10);
        x.way(-1, 0);
        is(0, x.count(2));
        is(0, x.land(4));
        is(0, x.way(5, 6));
    }

    // ---- promise 4: told

    static void p04_oneBelow0() {
        is(BAD, people(fresh(), 1, 0).told(-1, 0));
        is(BAD, people(fresh(), 1, 0).told(LOW, 0));
    }

    static void p04_oneThatIsNot() {
        is(BAD, people(fresh(), 1, 0).told(1, 0));
        is(BAD, people(fresh(), 8, 0).told(8, 0));
        is(BAD, people(fresh(), 8, 0).told(HIGH, 0));
    }

    static void p04_theLastOfEight() {
        TattooRoads x = people(fresh(), 7, 0);
        x.one(TWIN, 5, 66);
        is(TWIN, x.told(7, 0));
        is(5, x.told(7, 1));
        is(66, x.told(7, 2));
    }

    static void p04_whatBelow0() {
        is(BAD, people(fresh(), 1, 0).told(0, -1));
        is(BAD, people(fresh(), 1, 0).told(0, LOW));
    }

    static void p04_whatAbove6() {
        is(BAD, people(fresh(), 1, 0).told(0, 7));
        is(BAD, people(fresh(), 1, 0).told(0, HIGH));
    }

    static void p04_oneWhoIsGoneWithAnImage() {
        TattooRoads x = people(fresh(), 1, 0);
        x.keep();
        people(x, 1, 0);
        x.back();
        is(BAD, x.told(1, 0));
    }

    static void p04_skinOfAllFourteen() {
        TattooRoads x = ways(people(fresh(), 1, 0), 14);
        inked(x, 0, 0, 1, 2, 3, 4, 5, 6, 7, 8, 9, 10, 11, 12, 13);
        is(0x3FFF, x.told(0, 3));
        is(14, x.told(0, 6));
    }

    /** Each KIND in PLACE 5, its SKIN full, beside WAYS 0, 1, 12 and 13 that touch PLACE 5 and ten that do not. */
    private static TattooRoads reader(int kind) {
        TattooRoads x = fresh();
        x.way(5, 0);
        x.way(0, 5);
        ways(x, 10);
        x.way(5, 1);
        x.way(1, 5);
        x.one(kind, 5, 0);
        return inked(x, 0, 0, 1, 2, 3, 4, 5, 6, 7, 8, 9, 10, 11, 12, 13);
    }

    static void p04_aOneReadsAllOfItsSkin() {
        is(0x3FFF, reader(ONE).told(0, 4));
    }

    static void p04_aGuideReadsAsOne() {
        is(0x3FFF, reader(GUIDE).told(0, 4));
    }

    static void p04_anElderReadsNoneWithoutRestBy3() {
        is(0b10110110110110, reader(ELDER).told(0, 4));
    }

    static void p04_anElderReadsNotWay0() {
        TattooRoads x = ways(fresh(), 1);
        x.one(ELDER, 0, 0);
        is(0, inked(x, 0, 0).told(0, 4));
    }

    static void p04_aChildReadsThoseThatTouch() {
        is(0b11000000000011, reader(CHILD).told(0, 4));
    }

    static void p04_aChildReadsNoneBesidesItsSkin() {
        TattooRoads x = reader(CHILD);
        x.scar(0, 0);
        x.scar(0, 13);
        is(0b01000000000010, x.told(0, 4));
    }

    static void p04_aTwinReadsOddOnesToo() {
        is(0b11101010101011, reader(TWIN).told(0, 4));
    }

    static void p04_aTwinReadsOddOnesOfItsSkinAlone() {
        TattooRoads x = reader(TWIN);
        x.scar(0, 3);
        x.scar(0, 13);
        is(0b01101010100011, x.told(0, 4));
    }

    static void p04_aForgerReadsOddOnesThatTouch() {
        is(0b10000000000010, reader(FORGER).told(0, 4));
    }

    static void p04_aForgerReadsWhateverItsSkin() {
        TattooRoads x = reader(FORGER);
        x.scar(0, 1);
        x.scar(0, 13);
        is(0b10000000000010, x.told(0, 4));
    }

    static void p04_readsThoseAloneThatThereAre() {
        TattooRoads x = fresh();
        x.one(FORGER, 0, 0);
        is(0, x.told(0, 4));
        ways(x, 1);
        is(0, x.told(0, 4));
        ways(x, 1);
        is(0b10, x.told(0, 4));
    }

    static void p04_readsNoWayThatIsGoneWithAnImage() {
        TattooRoads x = ways(fresh(), 1);
        x.one(FORGER, 0, 0);
        x.keep();
        ways(x, 1);
        is(0b10, x.told(0, 4));
        x.back();
        is(0, x.told(0, 4));
    }

    static void p04_readsWhatDoesNotStand() {
        TattooRoads x = reader(FORGER);
        x.slides(1);
        is(0b10000000000010, x.told(0, 4));
    }

    static void p04_readsInItsPlaceOfNow() {
        TattooRoads x = reader(CHILD);
        x.set(0, 1, 9);
        is(0, x.told(0, 4));
        x.set(0, 1, 1);
        is(0b11111111111100, x.told(0, 4));
    }

    static void p04_urgeWithoutAText() {
        TattooRoads x = people(fresh(), 1, 0);
        is(60, x.told(0, 5));
        x.rule(0, 0);
        is(0, x.told(0, 5));
        x.rule(0, 100);
        is(100, x.told(0, 5));
    }

    static void p04_urgeHeldWithin100() {
        TattooRoads x = people(fresh(), 1, 0);
        Tapes.tell(x, "urge 100");
        is(100, x.told(0, 5));
        Tapes.tell(x, "urge 101");
        is(100, x.told(0, 5));
        Tapes.tell(x, "urge 9999*9999");
        is(100, x.told(0, 5));
    }

    static void p04_urgeHeldWithin0() {
        TattooRoads x = people(fresh(), 1, 0);
        Tapes.tell(x, "urge 0");
        is(0, x.told(0, 5));
        Tapes.tell(x, "urge 0-1");
        is(0, x.told(0, 5));
        Tapes.tell(x, "urge 9999*9999*30");
        is(1, 9999L * 9999 * 30 > HIGH && 9999 * 9999 * 30 < 0 ? 1 : 0);
        is(0, x.told(0, 5));
    }

    private static int worth(int kind, int borne) {
        TattooRoads x = ways(fresh(), 14);
        x.one(kind, 0, 0);
        for (int way = 0; way < borne; way++) {
            x.ink(0, way);
        }
        return x.told(0, 6);
    }

    static void p04_worthWithoutASkin() {
        int[] want = {0, 5, 40, 10, 36, 3};
        for (int kind = 0; kind < 6; kind++) {
            is(want[kind], worth(kind, 0));
        }
    }

    static void p04_worthWithAllFourteen() {
        int[] want = {14, 19, 26, 38, 22, 3};
        for (int kind = 0; kind < 6; kind++) {
            is(want[kind], worth(kind, 14));
        }
    }

    // ---- promise 5: as

    private static TattooRoads oneOfEach() {
        TattooRoads x = fresh();
        for (int kind = 0; kind < 6; kind++) {
            x.one(kind, kind + 1, 0);
        }
        return x;
    }

    static void p05_oneBelow0() {
        is(BAD, oneOfEach().as(-1, 0));
        is(BAD, oneOfEach().as(LOW, 0));
    }

    static void p05_oneThatIsNot() {
        is(BAD, oneOfEach().as(6, 0));
        is(BAD, fresh().as(0, 0));
        is(BAD, oneOfEach().as(HIGH, 0));
    }

    static void p05_kindBelow0() {
        is(BAD, oneOfEach().as(0, -1));
        is(BAD, oneOfEach().as(0, LOW));
    }

    static void p05_kindAbove5() {
        is(BAD, oneOfEach().as(0, 6));
        is(BAD, oneOfEach().as(0, HIGH));
    }

    static void p05_allAreOnes() {
        for (int kind = 0; kind < 6; kind++) {
            is(kind + 1, oneOfEach().as(kind, ONE));
        }
    }

    static void p05_ofItsOwnKind() {
        for (int kind = 0; kind < 6; kind++) {
            is(kind + 1, oneOfEach().as(kind, kind));
        }
    }

    static void p05_anElderIsAGuide() {
        is(4, oneOfEach().as(ELDER, GUIDE));
        is(KIND, oneOfEach().as(GUIDE, ELDER));
    }

    static void p05_aTwinIsAChild() {
        is(5, oneOfEach().as(TWIN, CHILD));
        is(KIND, oneOfEach().as(CHILD, TWIN));
    }

    static void p05_aOneIsNoneOfTheOthers() {
        for (int kind = 1; kind < 6; kind++) {
            is(KIND, oneOfEach().as(ONE, kind));
        }
    }

    static void p05_aForgerIsNoneButOne() {
        for (int kind = 1; kind < 5; kind++) {
            is(KIND, oneOfEach().as(FORGER, kind));
            is(KIND, oneOfEach().as(kind, FORGER));
        }
    }

    static void p05_guidesAreNoChildren() {
        is(KIND, oneOfEach().as(GUIDE, CHILD));
        is(KIND, oneOfEach().as(ELDER, CHILD));
        is(KIND, oneOfEach().as(CHILD, GUIDE));
        is(KIND, oneOfEach().as(TWIN, GUIDE));
        is(KIND, oneOfEach().as(ELDER, TWIN));
        is(KIND, oneOfEach().as(TWIN, ELDER));
    }

    static void p05_badStandsAheadOfKind() {
        is(BAD, oneOfEach().as(6, 6));
        is(BAD, oneOfEach().as(-1, 1));
    }

    // ---- promise 6: turns

    static void p06_oneBelow0() {
        is(BAD, people(fresh(), 1, 0).turns(-1, 0));
        is(BAD, people(fresh(), 1, 0).turns(LOW, 0));
    }

    static void p06_oneThatIsNot() {
        is(BAD, people(fresh(), 1, 0).turns(1, 0));
        is(BAD, people(fresh(), 8, 0).turns(8, 0));
    }

    static void p06_kindBelow0() {
        is(BAD, people(fresh(), 1, 0).turns(0, -1));
        is(BAD, people(fresh(), 1, 0).turns(0, LOW));
    }

    static void p06_kindAbove5() {
        is(BAD, people(fresh(), 1, 0).turns(0, 6));
        is(BAD, people(fresh(), 1, 0).turns(0, HIGH));
    }

    static void p06_fromEachToEach() {
        for (int was = 0; was < 6; was++) {
            for (int kind = 0; kind < 6; kind++) {
                TattooRoads x = fresh();
                x.one(was, 0, 0);
                is(was, x.turns(0, kind));
                is(kind, x.told(0, 0));
            }
        }
    }

    static void p06_refusedItIsWhatItWas() {
        TattooRoads x = fresh();
        x.one(ELDER, 0, 0);
        x.turns(0, 6);
        x.turns(0, -1);
        is(ELDER, x.told(0, 0));
    }

    static void p06_skinStays() {
        TattooRoads x = inked(ways(people(fresh(), 1, 0), 2), 0, 1);
        x.turns(0, FORGER);
        is(2, x.told(0, 3));
    }

    // ---- promise 7: set

    static void p07_oneBelow0() {
        is(BAD, people(fresh(), 1, 0).set(-1, 1, 0));
        is(BAD, people(fresh(), 1, 0).set(LOW, 2, 0));
    }

    static void p07_oneThatIsNot() {
        is(BAD, people(fresh(), 1, 0).set(1, 1, 0));
        is(BAD, people(fresh(), 8, 0).set(8, 2, 0));
    }

    static void p07_what0() {
        is(BAD, people(fresh(), 1, 0).set(0, 0, 0));
    }

    static void p07_what3() {
        is(BAD, people(fresh(), 1, 0).set(0, 3, 0));
    }

    static void p07_whatFarOff() {
        is(BAD, people(fresh(), 1, 0).set(0, -1, 0));
        is(BAD, people(fresh(), 1, 0).set(0, LOW, 0));
        is(BAD, people(fresh(), 1, 0).set(0, HIGH, 0));
    }

    static void p07_placeBelow0() {
        is(BAD, people(fresh(), 1, 0).set(0, 1, -1));
        is(BAD, people(fresh(), 1, 0).set(0, 1, LOW));
    }

    static void p07_placeAbove9() {
        is(BAD, people(fresh(), 1, 0).set(0, 1, 10));
        is(BAD, people(fresh(), 1, 0).set(0, 1, HIGH));
    }

    static void p07_places0And9() {
        TattooRoads x = people(fresh(), 1, 5);
        is(5, x.set(0, 1, 0));
        is(0, x.set(0, 1, 9));
        is(9, x.told(0, 1));
    }

    static void p07_ageBelow0() {
        is(BAD, people(fresh(), 1, 0).set(0, 2, -1));
        is(BAD, people(fresh(), 1, 0).set(0, 2, LOW));
    }

    static void p07_ageAbove99() {
        is(BAD, people(fresh(), 1, 0).set(0, 2, 100));
        is(BAD, people(fresh(), 1, 0).set(0, 2, HIGH));
    }

    static void p07_ages0And99() {
        TattooRoads x = people(fresh(), 1, 5);
        is(0, x.set(0, 2, 99));
        is(99, x.set(0, 2, 0));
        is(0, x.told(0, 2));
    }

    static void p07_refusedNothingChanges() {
        TattooRoads x = fresh();
        x.one(ONE, 4, 44);
        x.set(0, 1, 10);
        x.set(0, 2, 100);
        x.set(0, 3, 5);
        x.set(0, 0, 5);
        is(ONE, x.told(0, 0));
        is(4, x.told(0, 1));
        is(44, x.told(0, 2));
    }

    static void p07_anAgeThatIsSetFadesNothing() {
        TattooRoads x = inked(ways(people(fresh(), 1, 0), 1), 0, 0);
        x.set(0, 2, 10);
        is(1, x.told(0, 3));
        is(0, x.land(2));
    }

    // ---- promise 8: ink

    static void p08_oneBelow0() {
        is(BAD, ways(people(fresh(), 1, 0), 1).ink(-1, 0));
        is(BAD, ways(people(fresh(), 1, 0), 1).ink(LOW, 0));
    }

    static void p08_oneThatIsNot() {
        is(BAD, ways(people(fresh(), 1, 0), 1).ink(1, 0));
        is(BAD, ways(people(fresh(), 8, 0), 1).ink(8, 0));
    }

    static void p08_wayBelow0() {
        is(BAD, ways(people(fresh(), 1, 0), 1).ink(0, -1));
        is(BAD, ways(people(fresh(), 1, 0), 1).ink(0, LOW));
        is(BAD, ways(people(fresh(), 1, 0), 1).ink(0, -32));
    }

    static void p08_wayThatIsNot() {
        is(BAD, people(fresh(), 1, 0).ink(0, 0));
        is(BAD, ways(people(fresh(), 1, 0), 1).ink(0, 1));
        is(BAD, ways(people(fresh(), 1, 0), 14).ink(0, 14));
        is(BAD, ways(people(fresh(), 1, 0), 14).ink(0, 32));
    }

    static void p08_itHasThat() {
        TattooRoads x = inked(ways(people(fresh(), 1, 0), 2), 0, 1);
        is(NO, x.ink(0, 1));
        is(2, x.told(0, 3));
    }

    static void p08_anotherHasThat() {
        TattooRoads x = inked(ways(people(fresh(), 2, 0), 2), 0, 1);
        is(1, x.ink(1, 1));
    }

    static void p08_upToFourteen() {
        TattooRoads x = ways(people(fresh(), 1, 0), 14);
        for (int way = 13; way >= 0; way--) {
            is(14 - way, x.ink(0, way));
        }
    }

    static void p08_aWayThatDoesNotStand() {
        TattooRoads x = ways(people(fresh(), 1, 0), 1);
        x.slides(0);
        is(1, x.ink(0, 0));
    }

    static void p08_isNotInked() {
        is(0, inked(ways(people(fresh(), 1, 0), 1), 0, 0).land(1));
    }

    static void p08_evenOneWhoDoesNotLearn() {
        TattooRoads x = ways(fresh(), 1);
        x.one(CHILD, 0, 0);
        is(1, x.ink(0, 0));
    }

    // ---- promise 9: scar

    static void p09_oneBelow0() {
        is(BAD, ways(people(fresh(), 1, 0), 1).scar(-1, 0));
        is(BAD, ways(people(fresh(), 1, 0), 1).scar(LOW, 0));
    }

    static void p09_oneThatIsNot() {
        is(BAD, ways(people(fresh(), 1, 0), 1).scar(1, 0));
        is(BAD, ways(people(fresh(), 8, 0), 1).scar(8, 0));
    }

    static void p09_wayBelow0() {
        is(BAD, ways(people(fresh(), 1, 0), 1).scar(0, -1));
        is(BAD, ways(people(fresh(), 1, 0), 1).scar(0, LOW));
    }

    static void p09_wayThatIsNot() {
        is(BAD, people(fresh(), 1, 0).scar(0, 0));
        is(BAD, inked(ways(people(fresh(), 1, 0), 1), 0, 0).scar(0, 1));
        is(BAD, ways(people(fresh(), 1, 0), 14).scar(0, 14));
        is(BAD, inked(ways(people(fresh(), 1, 0), 1), 0, 0).scar(0, 32));
    }

    static void p09_itDoesNotHaveThat() {
        TattooRoads x = inked(ways(people(fresh(), 1, 0), 2), 0, 1);
        is(NO, x.scar(0, 0));
        is(2, x.told(0, 3));
    }

    static void p09_downToNone() {
        TattooRoads x = inked(ways(people(fresh(), 1, 0), 14), 0, 0, 5, 13);
        is(2, x.scar(0, 5));
        is(1, x.scar(0, 13));
        is(0, x.scar(0, 0));
        is(NO, x.scar(0, 0));
    }

    static void p09_isNotFaded() {
        TattooRoads x = inked(ways(people(fresh(), 1, 0), 1), 0, 0);
        x.scar(0, 0);
        is(0, x.land(2));
    }

    static void p09_evenOneWhoLosesNone() {
        TattooRoads x = ways(fresh(), 1);
        x.one(GUIDE, 0, 0);
        is(0, inked(x, 0, 0).scar(0, 0));
    }

    // ---- promise 10: about

    static void p10_wayBelow0() {
        is(BAD, ways(fresh(), 1).about(-1, 0));
        is(BAD, ways(fresh(), 1).about(LOW, 0));
    }

    static void p10_wayThatIsNot() {
        is(BAD, fresh().about(0, 0));
        is(BAD, ways(fresh(), 1).about(1, 0));
        is(BAD, ways(fresh(), 14).about(14, 0));
        is(BAD, ways(fresh(), 14).about(HIGH, 0));
    }

    static void p10_whatBelow0() {
        is(BAD, ways(fresh(), 1).about(0, -1));
        is(BAD, ways(fresh(), 1).about(0, LOW));
    }

    static void p10_whatAbove3() {
        is(BAD, ways(fresh(), 1).about(0, 4));
        is(BAD, ways(fresh(), 1).about(0, HIGH));
    }

    static void p10_theLastOfFourteen() {
        TattooRoads x = ways(fresh(), 13);
        x.way(9, 4);
        is(9, x.about(13, 0));
        is(4, x.about(13, 1));
        is(1, x.about(13, 2));
        is(0, x.about(13, 3));
    }

    static void p10_noSkinHasIt() {
        is(0, ways(people(fresh(), 8, 0), 1).about(0, 3));
    }

    static void p10_allEightSkinsHaveIt() {
        TattooRoads x = ways(people(fresh(), 8, 0), 14);
        for (int one = 0; one < 8; one++) {
            x.ink(one, 13);
        }
        is(0xFF, x.about(13, 3));
        is(0, x.about(12, 3));
    }

    static void p10_aForgerReadsItButDoesNotHaveIt() {
        TattooRoads x = ways(fresh(), 2);
        x.one(FORGER, 0, 0);
        is(0, x.about(1, 3));
    }

    // ---- promise 11: slides

    static void p11_wayBelow0() {
        is(BAD, ways(fresh(), 1).slides(-1));
        is(BAD, ways(fresh(), 1).slides(LOW));
    }

    static void p11_wayThatIsNot() {
        is(BAD, fresh().slides(0));
        is(BAD, ways(fresh(), 1).slides(1));
        is(BAD, ways(fresh(), 14).slides(14));
        is(BAD, ways(fresh(), 1).slides(32));
    }

    static void p11_oneThatStands() {
        TattooRoads x = ways(fresh(), 14);
        is(1, x.slides(13));
        is(0x1FFF, x.land(4));
    }

    static void p11_oneThatDoesNotStand() {
        TattooRoads x = ways(fresh(), 14);
        x.slides(13);
        is(0, x.slides(13));
        is(0x3FFF, x.land(4));
    }

    static void p11_refusedAllStand() {
        TattooRoads x = ways(fresh(), 2);
        x.slides(2);
        x.slides(-1);
        is(3, x.land(4));
    }

    // ---- promise 12: at

    static void p12_placeBelow0() {
        is(BAD, fresh().at(-1));
        is(BAD, fresh().at(LOW));
    }

    static void p12_placeAbove9() {
        is(BAD, fresh().at(10));
        is(BAD, fresh().at(HIGH));
    }

    static void p12_nobodyIsThere() {
        is(0, people(fresh(), 8, 4).at(5));
    }

    static void p12_allEightAreThere() {
        is(0xFF, people(fresh(), 8, 9).at(9));
        is(0xFF, people(fresh(), 8, 0).at(0));
    }

    // ---- promise 13: rule

    static void p13_whatBelow0() {
        is(BAD, fresh().rule(-1, 0));
        is(BAD, fresh().rule(LOW, 0));
    }

    static void p13_whatAbove1() {
        is(BAD, fresh().rule(2, 0));
        is(BAD, fresh().rule(HIGH, 0));
    }

    static void p13_wandersBelow0() {
        is(BAD, fresh().rule(0, -1));
        is(BAD, fresh().rule(0, LOW));
    }

    static void p13_wandersAbove100() {
        is(BAD, fresh().rule(0, 101));
        is(BAD, fresh().rule(0, HIGH));
    }

    static void p13_wanders0And100() {
        TattooRoads x = fresh();
        is(60, x.rule(0, 0));
        is(0, x.rule(0, 100));
        is(100, x.count(3));
        is(10, x.count(4));
    }

    static void p13_slipsBelow0() {
        is(BAD, fresh().rule(1, -1));
        is(BAD, fresh().rule(1, LOW));
    }

    static void p13_slipsAbove100() {
        is(BAD, fresh().rule(1, 101));
        is(BAD, fresh().rule(1, HIGH));
    }

    static void p13_slips0And100() {
        TattooRoads x = fresh();
        is(10, x.rule(1, 0));
        is(0, x.rule(1, 100));
        is(100, x.count(4));
        is(60, x.count(3));
    }

    static void p13_refusedNothingChanges() {
        TattooRoads x = fresh();
        x.rule(0, 101);
        x.rule(1, 101);
        x.rule(2, 50);
        is(60, x.count(3));
        is(10, x.count(4));
    }

    // ---- promise 14: deal

    static void p14_nBelow1() {
        is(BAD, fresh().deal(0));
        is(BAD, fresh().deal(-1));
        is(BAD, fresh().deal(LOW));
    }

    static void p14_nAbove8() {
        is(BAD, fresh().deal(9));
        is(BAD, fresh().deal(HIGH));
    }

    static void p14_n1And8() {
        is(1, fresh().deal(1));
        TattooRoads x = fresh();
        is(8, x.deal(8));
        is(8, x.count(0));
    }

    static void p14_asManyAsThereIsRoomFor() {
        TattooRoads x = people(fresh(), 6, 0);
        is(2, x.deal(3));
        is(8, x.count(0));
    }

    static void p14_noRoom() {
        is(0, people(fresh(), 8, 0).deal(8));
    }

    static void p14_noDrawsForOthers() {
        TattooRoads x = people(fresh(), 6, 0);
        x.deal(8);
        is(Draws.after(1, 8), x.count(8));
        x.deal(8);
        is(Draws.after(1, 8), x.count(8));
    }

    static void p14_badStandsWhenThereIsNoRoom() {
        TattooRoads x = people(fresh(), 8, 0);
        is(BAD, x.deal(0));
        is(BAD, x.deal(9));
    }

    static void p14_refusedNoDraw() {
        TattooRoads x = fresh();
        x.deal(0);
        x.deal(9);
        is(1, x.count(8));
        is(0, x.count(0));
    }

    static void p14_kindPlaceAgeSkinAreDrawnInThisOrder() {
        TattooRoads x = ways(fresh(), 14);
        x.seed(2026);
        x.deal(8);
        Draws draws = new Draws(2026);
        for (int one = 0; one < 8; one++) {
            is(draws.next() % 6, x.told(one, 0));
            is(draws.next() % 10, x.told(one, 1));
            is(draws.next() % 80, x.told(one, 2));
            is(draws.next() & 0x3FFF, x.told(one, 3));
        }
        is(draws.z, x.count(8));
    }

    static void p14_skinOfTheWaysThatThereAre() {
        for (int many = 0; many <= 14; many++) {
            TattooRoads x = ways(fresh(), many);
            x.deal(1);
            Draws draws = new Draws(Draws.after(1, 3));
            is(draws.next() & (1 << many) - 1, x.told(0, 3));
        }
    }

    static void p14_fourDrawsWithoutWaysToo() {
        TattooRoads x = fresh();
        x.deal(1);
        is(Draws.after(1, 4), x.count(8));
    }

    // ---- promise 15: seed

    static void p15_anyNumber() {
        TattooRoads x = fresh();
        is(1, x.seed(LOW));
        is(LOW, x.seed(HIGH));
        is(HIGH, x.seed(0));
        is(0, x.seed(NONE));
        is(NONE, x.seed(BAD));
        is(BAD, x.count(8));
    }

    static void p15_aDrawWraps() {
        int[] seeds = {LOW, HIGH, -1, 0, 1, 1 << 30};
        for (int seed : seeds) {
            TattooRoads x = still();
            x.seed(seed);
            x.days(1);
            is((int) ((long) seed * 1103515245L + 12345L), x.count(8));
        }
    }

    static void p15_aDrawIsNeverBelow0() {
        // z below 0 would give a rest below 0 if z >> 8 were drawn
        for (int seed = 1; seed < 60; seed++) {
            TattooRoads x = fresh();
            x.seed(seed);
            x.deal(1);
            Draws draws = new Draws(seed);
            is((draws.next() & 0xFFFFFF) % 6, x.told(0, 0));
        }
    }
}
