/** Promises 23 to 29, what is only thought and what TEXTS give: each boundary case has a test of its own. */
public final class EdgesWhatWillBeTest extends Edges {
    public static void main(String[] args) throws ReflectiveOperationException {
        run(EdgesWhatWillBeTest.class, 23, 29);
    }

    /** One in PLACE 0 who walks to and fro each day between 0 and 1. */
    private static TattooRoads walker() {
        return inked(ways(people(restless(), 1, 0), 1), 0, 0);
    }

    private static TattooRoads onTheLastDay() {
        TattooRoads x = walker();
        x.turns(0, GUIDE);
        for (int i = 0; i < 100; i++) {
            x.days(100);
        }
        is(9999, x.count(1));
        return x;
    }

    /** Fourteen WAYS, of which the last one alone touches where the one is. */
    private static TattooRoads walkerByTheLastWay() {
        TattooRoads x = ways(restless(), 13);
        x.way(6, 7);
        x.one(GUIDE, 6, 99);
        return inked(x, 0, 13);
    }

    // ---- promise 23: behind

    static void p23_nBelow0() {
        is(BAD, walker().behind(-1, 0));
        is(BAD, walker().behind(LOW, 0));
    }

    static void p23_nAbove100() {
        is(BAD, walker().behind(101, 0));
        is(BAD, walker().behind(HIGH, 0));
    }

    static void p23_n0And100() {
        is(0, walker().behind(0, 0));
        is(0, walker().behind(0, 4));
        TattooRoads x = walker();
        x.turns(0, GUIDE);
        is(100, x.behind(100, 0));
    }

    static void p23_whatBelow0() {
        is(BAD, walker().behind(0, -1));
        is(BAD, walker().behind(0, LOW));
    }

    static void p23_placeOfOneThatIsNot() {
        is(BAD, walker().behind(0, 5));
        is(BAD, fresh().behind(0, 4));
        is(BAD, people(fresh(), 8, 0).behind(0, 12));
        is(BAD, walker().behind(0, HIGH));
    }

    static void p23_placeOfTheFirstAndTheLastOfEight() {
        TattooRoads x = people(people(fresh(), 7, 3), 1, 8);
        is(3, x.behind(0, 4));
        is(8, x.behind(0, 11));
        is(8, x.behind(100, 11));
    }

    static void p23_withoutPeople() {
        is(0, fresh().behind(100, 0));
        is(0, fresh().behind(100, 1));
        is(0, fresh().behind(100, 2));
        is(0, fresh().behind(100, 3));
    }

    static void p23_behind0DaysAllIsAsItIs() {
        TattooRoads x = walker();
        people(x, 1, 0);
        x.set(0, 2, 9);
        x.days(3);
        for (int what = 0; what <= 3; what++) {
            is(x.land(what), x.behind(0, what));
        }
        is(x.told(0, 1), x.behind(0, 4));
        is(x.told(1, 1), x.behind(0, 5));
    }

    static void p23_walkedInkedFadedAreAllThatWas() {
        TattooRoads x = ways(people(restless(), 2, 0), 1);
        inked(x, 1, 0);
        x.set(0, 2, 8);
        is(2, x.days(1));
        is(1, x.land(1));
        is(4, x.behind(1, 0));
        is(1, x.behind(1, 1));
        is(1, x.behind(1, 2));
        is(1, x.behind(1, 3));
    }

    static void p23_zAsItIs() {
        TattooRoads x = walker();
        x.rule(0, 50);
        x.seed(seedOfRest(49));
        is(1, x.behind(1, 0));
        x.seed(seedOfRest(50));
        is(0, x.behind(1, 0));
        is(seedOfRest(50), x.count(8));
    }

    static void p23_withoutTheBoundOfTheDay() {
        TattooRoads x = onTheLastDay();
        is(9999 + 100, x.behind(100, 0));
        is(9999, x.count(1));
    }

    static void p23_nothingChanges() {
        TattooRoads x = ways(people(restless(), 2, 0), 1);
        inked(x, 1, 0);
        x.set(0, 2, 9);
        x.rule(1, 100);
        is(2, x.behind(1, 0));
        is(0, x.land(0));
        is(0, x.land(1));
        is(0, x.land(2));
        is(1, x.land(4));
        is(0, x.count(1));
        is(1, x.count(8));
        is(0, x.told(0, 3));
        is(9, x.told(0, 2));
        is(0, x.told(0, 1));
    }

    static void p23_twiceTheSame() {
        TattooRoads x = walker();
        is(7, x.behind(7, 0));
        is(7, x.behind(7, 0));
    }

    static void p23_byTheLastOfFourteenWays() {
        TattooRoads x = walkerByTheLastWay();
        int seed = 0;
        while (new Draws(Draws.after(seed, 1)).next() % 14 != 13) {
            seed++;
        }
        x.seed(seed);
        is(7, x.behind(1, 4));
        is(1, x.behind(1, 0));
        x.set(0, 1, 7);
        is(6, x.behind(1, 4));
    }

    static void p23_fromTheLastPlace() {
        TattooRoads x = people(restless(), 1, 9);
        x.way(8, 9);
        inked(x, 0, 0);
        is(8, x.behind(1, 4));
        is(9, x.behind(2, 4));
    }

    static void p23_byTheUrgeThatCounts() {
        TattooRoads x = walker();
        Tapes.tell(x, "urge (a<2)*100");
        is(2, x.behind(9, 0));
    }

    // ---- promise 24: arrives

    static void p24_oneBelow0() {
        is(BAD, walker().arrives(-1, 0));
        is(BAD, walker().arrives(LOW, 0));
    }

    static void p24_oneThatIsNot() {
        is(BAD, walker().arrives(1, 0));
        is(BAD, fresh().arrives(0, 0));
        is(BAD, people(fresh(), 8, 0).arrives(8, 0));
    }

    static void p24_placeBelow0() {
        is(BAD, walker().arrives(0, -1));
        is(BAD, walker().arrives(0, LOW));
    }

    static void p24_placeAbove9() {
        is(BAD, walker().arrives(0, 10));
        is(BAD, walker().arrives(0, HIGH));
    }

    static void p24_behind0DaysItIsThere() {
        is(0, walker().arrives(0, 0));
        is(0, people(fresh(), 1, 9).arrives(0, 9));
    }

    static void p24_behind1Day() {
        is(1, walker().arrives(0, 1));
    }

    static void p24_first() {
        TattooRoads x = walker();
        x.set(0, 1, 1);
        is(1, x.arrives(0, 0));
        is(0, x.arrives(0, 1));
    }

    static void p24_never() {
        is(NONE, walker().arrives(0, 2));
        is(NONE, people(fresh(), 1, 0).arrives(0, 9));
    }

    /** A land in which the one walks first on just this day. */
    private static TattooRoads walksFirstOn(int day) {
        int seed = 0;
        while (firstWalk(seed) != day) {
            seed++;
        }
        TattooRoads x = inked(ways(people(still(), 1, 0), 1), 0, 0);
        x.turns(0, GUIDE);
        x.rule(0, 1);
        x.seed(seed);
        return x;
    }

    private static int firstWalk(int seed) {
        Draws draws = new Draws(seed);
        for (int day = 1; day <= 202; day++) {
            if (draws.next() % 100 == 0) {
                return day;
            }
            draws.next();
        }
        return 0;
    }

    static void p24_behind199Days() {
        is(199, walksFirstOn(199).arrives(0, 1));
    }

    static void p24_behind200Days() {
        is(200, walksFirstOn(200).arrives(0, 1));
    }

    static void p24_behind201DaysIsNotByThen() {
        is(NONE, walksFirstOn(201).arrives(0, 1));
        is(0, walksFirstOn(201).arrives(0, 0));
    }

    static void p24_withoutTheBoundOfTheDay() {
        TattooRoads x = onTheLastDay();
        int there = x.told(0, 1);
        is(1, x.arrives(0, 1 - there));
        is(9999, x.count(1));
    }

    static void p24_nothingChanges() {
        TattooRoads x = walker();
        is(NONE, x.arrives(0, 5));
        is(0, x.told(0, 1));
        is(0, x.told(0, 2));
        is(0, x.land(0));
        is(1, x.count(8));
        is(0, x.count(1));
    }

    static void p24_theLastOfEight() {
        TattooRoads x = inked(ways(people(people(restless(), 7, 5), 1, 0), 1), 7, 0);
        is(1, x.arrives(7, 1));
    }

    // ---- promise 25: inks

    static void p25_oneBelow0() {
        is(BAD, walker().inks(-1, 1, 0));
        is(BAD, walker().inks(LOW, 1, 0));
    }

    static void p25_oneThatIsNot() {
        is(BAD, walker().inks(1, 1, 0));
        is(BAD, ways(fresh(), 1).inks(0, 1, 0));
        is(BAD, ways(people(fresh(), 8, 0), 1).inks(8, 1, 0));
    }

    static void p25_nBelow1() {
        is(BAD, walker().inks(0, 0, 0));
        is(BAD, walker().inks(0, -1, 0));
        is(BAD, walker().inks(0, LOW, 0));
    }

    static void p25_nAbove60() {
        is(BAD, walker().inks(0, 61, 0));
        is(BAD, walker().inks(0, HIGH, 0));
    }

    static void p25_n1And60() {
        is(1, walker().inks(0, 1, 1));
        TattooRoads x = walker();
        x.turns(0, GUIDE);
        is(60, x.inks(0, 60, 1));
    }

    static void p25_whatBelow0() {
        is(BAD, walker().inks(0, 1, -1));
        is(BAD, walker().inks(0, 1, LOW));
    }

    static void p25_whatAbove1() {
        is(BAD, walker().inks(0, 1, 2));
        is(BAD, walker().inks(0, 1, HIGH));
    }

    static void p25_noWays() {
        is(NONE, people(fresh(), 1, 0).inks(0, 1, 0));
        is(NONE, people(fresh(), 1, 0).inks(0, 60, 1));
    }

    static void p25_badStandsAheadOfNone() {
        is(BAD, people(fresh(), 1, 0).inks(0, 61, 0));
        is(BAD, people(fresh(), 1, 0).inks(1, 1, 0));
        is(BAD, fresh().inks(0, 1, 0));
    }

    static void p25_ofSeveralTheLeast() {
        TattooRoads x = ways(people(still(), 1, 0), 14);
        is(0, x.inks(0, 1, 0));
        is(0, x.inks(0, 1, 1));
    }

    static void p25_theLastOfFourteen() {
        TattooRoads x = ways(people(restless(), 1, 6), 13);
        x.way(6, 7);
        x.turns(0, GUIDE);
        is(13, x.inks(0, 60, 0));
        is(1, x.inks(0, 60, 1) > 0 ? 1 : 0);
    }

    static void p25_oneThatItHasStaysSo() {
        TattooRoads x = walker();
        is(0, x.inks(0, 3, 0));
        is(3, x.inks(0, 3, 1));
        is(1, x.told(0, 3));
    }

    static void p25_besideWhatItHas() {
        // by the first draws of ways, 0 on one day and 1 on the next, it comes from PLACE 0 to PLACE 2
        int seed = 0;
        while (wayDrawn(seed, 0) != 0 || wayDrawn(seed, 3) != 1) {
            seed++;
        }
        TattooRoads x = people(restless(), 1, 0);
        x.way(0, 1);
        x.way(1, 2);
        inked(x, 0, 0).seed(seed);
        is(1, x.inks(0, 2, 0));
        is(2, x.inks(0, 2, 1));
    }

    /** Which of two WAYS the one is drawn, so many draws having gone ahead of its day. */
    private static int wayDrawn(int seed, int drawsAhead) {
        return new Draws(Draws.after(seed, drawsAhead + 1)).next() % 2;
    }

    static void p25_walkedIsAllThatWas() {
        TattooRoads x = walker();
        x.days(5);
        is(8, x.inks(0, 3, 1));
    }

    static void p25_nothingChanges() {
        TattooRoads x = ways(people(restless(), 1, 0), 1);
        is(0, x.inks(0, 9, 0));
        is(0, x.told(0, 3));
        is(0, x.told(0, 2));
        is(0, x.land(0));
        is(0, x.land(1));
        is(1, x.count(8));
        is(0, x.count(1));
    }

    static void p25_withoutTheBoundOfTheDay() {
        is(9999 + 60, onTheLastDay().inks(0, 60, 1));
    }

    static void p25_aSkinThatFadesThen() {
        // the WAY is inked now, not behind the day on which all fades
        TattooRoads x = ways(people(restless(), 1, 0), 1);
        x.set(0, 2, 9);
        is(1, x.inks(0, 5, 1));
    }

    // ---- promise 26: becomes

    static void p26_oneBelow0() {
        is(BAD, walker().becomes(-1, 1, 0));
        is(BAD, walker().becomes(LOW, 1, 0));
    }

    static void p26_oneThatIsNot() {
        is(BAD, walker().becomes(1, 1, 0));
        is(BAD, fresh().becomes(0, 1, 0));
        is(BAD, people(fresh(), 8, 0).becomes(8, 1, 0));
    }

    static void p26_nBelow1() {
        is(BAD, walker().becomes(0, 0, 0));
        is(BAD, walker().becomes(0, -1, 0));
        is(BAD, walker().becomes(0, LOW, 0));
    }

    static void p26_nAbove60() {
        is(BAD, walker().becomes(0, 61, 0));
        is(BAD, walker().becomes(0, HIGH, 0));
    }

    static void p26_n1And60() {
        TattooRoads x = inked(ways(people(still(), 1, 0), 1), 0, 0);
        is(1, x.becomes(0, 1, 1));
        is(GUIDE, x.becomes(0, 60, 0));
        is(1, x.becomes(0, 60, 1));
    }

    static void p26_whatBelow0() {
        is(BAD, walker().becomes(0, 1, -1));
        is(BAD, walker().becomes(0, 1, LOW));
    }

    static void p26_whatAbove1() {
        is(BAD, walker().becomes(0, 1, 2));
        is(BAD, walker().becomes(0, 1, HIGH));
    }

    static void p26_ofSeveralTheLeast() {
        is(ONE, people(still(), 1, 0).becomes(0, 60, 0));
        is(0, people(still(), 1, 0).becomes(0, 60, 1));
    }

    static void p26_aGuideFadesNot() {
        TattooRoads x = inked(ways(people(still(), 1, 0), 2), 0, 0, 1);
        x.set(0, 2, 9);
        is(GUIDE, x.becomes(0, 1, 0));
        is(2, x.becomes(0, 1, 1));
    }

    /** One without a skin beside a WAY with an odd number: a FORGER alone finds it, and is inked by it. */
    static void p26_theLastKindIsTriedToo() {
        TattooRoads x = ways(people(restless(), 1, 0), 2);
        is(FORGER, x.becomes(0, 5, 0));
        is(1, x.becomes(0, 5, 1));
    }

    static void p26_nothingChanges() {
        TattooRoads x = ways(people(restless(), 1, 0), 2);
        x.becomes(0, 60, 0);
        is(ONE, x.told(0, 0));
        is(0, x.told(0, 3));
        is(0, x.told(0, 2));
        is(0, x.land(0));
        is(1, x.count(8));
        is(0, x.count(1));
    }

    static void p26_withoutTheBoundOfTheDay() {
        TattooRoads x = onTheLastDay();
        x.set(0, 2, 0);
        is(GUIDE, x.becomes(0, 60, 0));
        is(1, x.becomes(0, 60, 1));
        x.turns(0, ONE);
        x.set(0, 2, 9);
        is(GUIDE, x.becomes(0, 1, 0));
    }

    // ---- promise 27: like

    static void p27_sheetBelow0() {
        is(BAD, walker().like(-1, 0));
        is(BAD, walker().like(LOW, 0));
    }

    static void p27_sheetAbove3() {
        is(BAD, walker().like(4, 0));
        is(BAD, walker().like(HIGH, 0));
    }

    static void p27_whatBelow0() {
        is(BAD, row(walker(), 0, 0, 1).like(0, -1));
        is(BAD, row(walker(), 0, 0, 1).like(0, LOW));
    }

    static void p27_whatAbove1() {
        is(BAD, row(walker(), 0, 0, 1).like(0, 2));
        is(BAD, row(walker(), 0, 0, 1).like(0, HIGH));
    }

    static void p27_aMissingSheet() {
        is(NOTHING, walker().like(0, 0));
        is(NOTHING, walker().like(3, 1));
    }

    static void p27_badStandsAheadOfNothing() {
        is(BAD, walker().like(0, 2));
        is(BAD, fresh().like(0, -1));
    }

    static void p27_nothingStandsAheadOfNone() {
        is(NOTHING, fresh().like(0, 0));
    }

    static void p27_noPeople() {
        is(NONE, row(fresh(), 0, 0, 1).like(0, 0));
        is(NONE, row(fresh(), 0, 0, 1).like(0, 1));
        is(NONE, row(fresh(), 0, 0).like(0, 1));
    }

    static void p27_badStandsAheadOfNone() {
        is(BAD, row(fresh(), 0, 0, 1).like(0, 2));
    }

    static void p27_noPlaces() {
        is(0, row(people(fresh(), 8, 0), 0, 0).like(0, 0));
        is(0, row(people(fresh(), 8, 0), 0, 1).like(0, 1));
    }

    static void p27_kFrom0On() {
        is(4, row(walker(), 0, 0, 0, 1, 0, 1).like(0, 1));
        is(0, row(walker(), 0, 0, 1, 0, 1, 0).like(0, 1));
    }

    static void p27_twentyFourPlaces() {
        TattooRoads x = walker();
        x.turns(0, GUIDE);
        x.sheet(3, 0, 24);
        for (int k = 1; k < 24; k += 2) {
            x.mark(3, k, 1);
        }
        is(24, x.like(3, 1));
        x.mark(3, 23, 0);
        is(23, x.like(3, 1));
    }

    static void p27_placesThatAreNumbersAlone() {
        is(2, row(walker(), 0, 1, 0, NONE, NONE, 1).like(0, 1));
        is(0, row(walker(), 0, 1, NONE, NONE).like(0, 1));
        is(0, row(walker(), 0, 1, NONE, NONE).like(0, 0));
    }

    static void p27_numbersThatAreNoPlaces() {
        is(0, row(walker(), 0, 0, -1, 10, 256, -256).like(0, 1));
        is(0, row(walker(), 0, 1, 99999, -99999).like(0, 1));
    }

    static void p27_ofSeveralTheLeast() {
        TattooRoads x = people(people(still(), 1, 5), 2, 6);
        is(1, row(x, 0, 0, 6, 6).like(0, 0));
        is(2, x.like(0, 1));
    }

    static void p27_theLastOfEight() {
        TattooRoads x = people(people(still(), 7, 5), 1, 6);
        is(7, row(x, 0, 0, 6, 5, 6).like(0, 0));
        is(2, x.like(0, 1));
    }

    static void p27_zAsItIsAndNothingChanges() {
        TattooRoads x = row(walker(), 0, 0, 0, 1, 0, 1);
        is(4, x.like(0, 1));
        is(4, x.like(0, 1));
        is(0, x.land(0));
        is(0, x.told(0, 2));
        is(1, x.count(8));
        is(0, x.count(1));
    }

    static void p27_withoutTheBoundOfTheDay() {
        TattooRoads x = onTheLastDay();
        x.set(0, 1, 0);
        is(3, row(x, 0, 0, 0, 1, 0).like(0, 1));
    }

    // ---- promise 28: fee

    static void p28_withoutAText() {
        TattooRoads x = walker();
        is(0, x.fee());
        x.days(5);
        is(5, x.fee());
    }

    static void p28_byTheTextThatWasToldLast() {
        TattooRoads x = walker();
        Tapes.tell(x, "fee 1");
        Tapes.tell(x, "fee 2");
        is(2, x.fee());
    }

    static void p28_textsOfOtherKeysDoNotCount() {
        TattooRoads x = walker();
        Tapes.tell(x, "urge 1");
        Tapes.tell(x, "fine 2");
        is(0, x.fee());
    }

    static void p28_kIsWalkedIIsInked() {
        TattooRoads x = ways(people(restless(), 2, 0), 1);
        inked(x, 1, 0);
        x.days(3);
        Tapes.tell(x, "fee k*1000+i");
        is(x.land(0) * 1000 + 1, x.fee());
    }

    static void p28_isNotHeldWithinAnything() {
        TattooRoads x = fresh();
        Tapes.tell(x, "fee 0-9999");
        is(-9999, x.fee());
        Tapes.tell(x, "fee 9999*9999*9999");
        is(9999 * 9999 * 9999, x.fee());
    }

    static void p28_behindATextThatIsGoneWithAnImage() {
        TattooRoads x = fresh();
        x.keep();
        Tapes.tell(x, "fee 5");
        x.back();
        is(0, x.fee());
    }

    // ---- promise 29: fine

    static void p29_oneBelow0() {
        is(BAD, walker().fine(-1));
        is(BAD, walker().fine(LOW));
    }

    static void p29_oneThatIsNot() {
        is(BAD, fresh().fine(0));
        is(BAD, walker().fine(1));
        is(BAD, people(fresh(), 8, 0).fine(8));
        is(BAD, walker().fine(HIGH));
    }

    static void p29_withoutAText() {
        TattooRoads x = inked(ways(people(fresh(), 8, 0), 14), 7, 0, 13);
        is(0, x.fine(0));
        is(2, x.fine(7));
    }

    static void p29_sIsOfItsSkinPIsItsPlace() {
        TattooRoads x = inked(ways(people(people(fresh(), 7, 3), 1, 9), 14), 7, 0, 13);
        Tapes.tell(x, "fine s*100+p");
        is(3, x.fine(0));
        is(209, x.fine(7));
    }

    static void p29_byTheTextThatWasToldLast() {
        TattooRoads x = walker();
        Tapes.tell(x, "fine 1");
        Tapes.tell(x, "fine 2");
        is(2, x.fine(0));
    }

    static void p29_textsOfOtherKeysDoNotCount() {
        TattooRoads x = walker();
        Tapes.tell(x, "urge 7");
        Tapes.tell(x, "fee 8");
        is(1, x.fine(0));
    }

    static void p29_badWithATextToo() {
        TattooRoads x = walker();
        Tapes.tell(x, "fine 1");
        is(BAD, x.fine(1));
        is(BAD, x.fine(-1));
    }

    static void p29_isNotHeldWithinAnything() {
        TattooRoads x = walker();
        Tapes.tell(x, "fine 0-9999");
        is(-9999, x.fine(0));
    }
}
