/** Promises 35 to 43, SHEETS and SLOTS of part 5: each boundary case has a test of its own. */
public final class EdgesSheetsSlotsTest extends Edges {
    public static void main(String[] args) throws ReflectiveOperationException {
        run(EdgesSheetsSlotsTest.class, 35, 43);
    }

    // ---- promise 35: sheet

    static void p35_sheetBelow0() {
        is(BAD, fresh().sheet(-1, 0, 1));
        is(BAD, fresh().sheet(LOW, 0, 1));
        is(BAD, fresh().sheet(-1, -1, 0));
    }

    static void p35_sheetAbove3() {
        is(BAD, fresh().sheet(4, 0, 1));
        is(BAD, fresh().sheet(HIGH, 0, 1));
        is(BAD, fresh().sheet(4, -1, 0));
    }

    static void p35_sheets0To3EachItsOwn() {
        TattooRoads x = fresh();
        for (int sheet = 0; sheet <= 3; sheet++) {
            is(sheet + 1, x.sheet(sheet, sheet % 2, sheet + 1));
        }
        for (int sheet = 0; sheet <= 3; sheet++) {
            is(1, x.mark(sheet, sheet, sheet + 10));
        }
        rowIs(x, 0, 10);
        rowIs(x, 1, 0, 11);
        rowIs(x, 2, 0, 0, 12);
        rowIs(x, 3, 0, 0, 0, 13);
    }

    static void p35_sortBelowMinus1() {
        is(BAD, fresh().sheet(0, -2, 1));
        is(BAD, fresh().sheet(0, LOW, 1));
    }

    static void p35_sortAbove1() {
        is(BAD, fresh().sheet(0, 2, 1));
        is(BAD, fresh().sheet(0, HIGH, 1));
    }

    static void p35_nAbove24() {
        is(BAD, fresh().sheet(0, 0, 25));
        is(BAD, fresh().sheet(0, 1, 25));
        is(BAD, fresh().sheet(0, 1, HIGH));
    }

    static void p35_n24() {
        TattooRoads x = fresh();
        is(24, x.sheet(0, 0, 24));
        is(1, x.mark(0, 23, 5));
        is(INDEX, x.mark(0, 24, 5));
        is(24, x.sheet(0, 1, 24));
        is(1, x.mark(0, 23, 5));
        is(INDEX, x.mark(0, 24, 5));
    }

    static void p35_n0() {
        TattooRoads x = fresh();
        is(0, x.sheet(0, 0, 0));
        is(INDEX, x.mark(0, 0, 0));
        is(0, x.sheet(1, 1, 0));
        is(INDEX, x.mark(1, 0, 0));
        is(NONE, x.reads(1));
    }

    static void p35_nBelow0() {
        is(SIZE, fresh().sheet(0, 0, -1));
        is(SIZE, fresh().sheet(0, 1, -1));
        is(SIZE, fresh().sheet(0, 1, LOW));
    }

    static void p35_badStandsAheadOfSize() {
        is(BAD, fresh().sheet(4, 0, -1));
        is(BAD, fresh().sheet(0, 2, -1));
        is(BAD, fresh().sheet(-1, -2, LOW));
    }

    static void p35_missingWithAnyN() {
        int[] any = {0, -1, 24, 25, LOW, HIGH, NONE};
        for (int n : any) {
            TattooRoads x = row(fresh(), 2, 0, 1, 2);
            is(0, x.sheet(2, -1, n));
            is(NOTHING, x.reads(2));
        }
    }

    static void p35_missingAgain() {
        is(0, fresh().sheet(0, -1, 0));
    }

    static void p35_all0() {
        TattooRoads x = row(fresh(), 0, 0, 1, 2, 3);
        x.sheet(0, 0, 3);
        rowIs(x, 0, 0, 0, 0);
        row(x, 0, 1, 1, NONE, 3);
        x.sheet(0, 1, 3);
        rowIs(x, 0, 0, 0, 0);
    }

    static void p35_all0UpToTheLastPlace() {
        TattooRoads x = fresh();
        x.sheet(0, 1, 24);
        x.mark(0, 23, NONE);
        x.sheet(0, 1, 24);
        is(0, placeOf(x, 0, 23));
    }

    static void p35_all0WhereItWasShorterBetween() {
        TattooRoads x = row(fresh(), 0, 1, 7, 7, 7);
        x.sheet(0, 1, 1);
        x.sheet(0, 1, 3);
        rowIs(x, 0, 0, 0, 0);
    }

    static void p35_anotherSort() {
        TattooRoads x = row(fresh(), 0, 1, NONE);
        is(1, x.sheet(0, 0, 1));
        is(KIND, x.mark(0, 0, NONE));
        is(1, x.sheet(0, 1, 1));
        is(1, x.mark(0, 0, NONE));
    }

    static void p35_refusedTheRowStays() {
        TattooRoads x = row(fresh(), 0, 1, 5, NONE);
        x.sheet(0, 1, -1);
        x.sheet(0, 0, 25);
        x.sheet(0, 2, 1);
        rowIs(x, 0, 5, KIND);
    }

    // ---- promise 36: mark

    static void p36_sheetBelow0() {
        is(BAD, row(fresh(), 0, 0, 1).mark(-1, 0, 0));
        is(BAD, row(fresh(), 0, 0, 1).mark(LOW, 0, 0));
    }

    static void p36_sheetAbove3() {
        is(BAD, row(fresh(), 0, 0, 1).mark(4, 0, 0));
        is(BAD, row(fresh(), 0, 0, 1).mark(HIGH, 0, 0));
    }

    static void p36_aMissingSheet() {
        is(NOTHING, fresh().mark(0, 0, 0));
        is(NOTHING, fresh().mark(3, 0, 0));
    }

    static void p36_nothingStandsAheadOfIndex() {
        is(NOTHING, fresh().mark(0, -1, 0));
        is(NOTHING, fresh().mark(0, 24, NONE));
    }

    static void p36_placeBelow0() {
        is(INDEX, row(fresh(), 0, 0, 1).mark(0, -1, 0));
        is(INDEX, row(fresh(), 0, 1, 1).mark(0, LOW, 0));
    }

    static void p36_placeBehindTheLast() {
        is(INDEX, row(fresh(), 0, 0, 1, 2).mark(0, 2, 0));
        is(INDEX, row(fresh(), 0, 1, 1, 2).mark(0, HIGH, 0));
        is(INDEX, row(fresh(), 0, 0).mark(0, 0, 0));
    }

    static void p36_theFirstAndTheLastPlace() {
        TattooRoads x = row(fresh(), 0, 0, 1, 2, 3);
        is(1, x.mark(0, 0, 7));
        is(1, x.mark(0, 2, 9));
        rowIs(x, 0, 7, 2, 9);
    }

    static void p36_indexStandsAheadOfKind() {
        is(INDEX, row(fresh(), 0, 0, 1).mark(0, 1, NONE));
    }

    static void p36_indexStandsAheadOfBadOfV() {
        is(INDEX, row(fresh(), 0, 1, 1).mark(0, 1, 100000));
    }

    static void p36_noneInARowOfShorts() {
        TattooRoads x = row(fresh(), 0, 0, 5);
        is(KIND, x.mark(0, 0, NONE));
        rowIs(x, 0, 5);
    }

    static void p36_besideNoneInARowOfShorts() {
        TattooRoads x = row(fresh(), 0, 0, 5, 5);
        is(1, x.mark(0, 0, NONE + 1));
        is(1, x.mark(0, 1, NONE - 1));
        rowIs(x, 0, (short) (NONE + 1), (short) (NONE - 1));
    }

    static void p36_shortsUpTo32767() {
        TattooRoads x = row(fresh(), 0, 0, 32767, -32768);
        rowIs(x, 0, 32767, -32768);
    }

    static void p36_shortsWrapAbove32767() {
        rowIs(row(fresh(), 0, 0, 32768, 65535, 65536, 65537), 0, -32768, -1, 0, 1);
    }

    static void p36_shortsWrapBelowMinus32768() {
        rowIs(row(fresh(), 0, 0, -32769, -65535, -65536), 0, 32767, 1, 0);
    }

    static void p36_shortsOfTheLowestAndTheHighest() {
        rowIs(row(fresh(), 0, 0, LOW, HIGH), 0, 0, -1);
    }

    static void p36_floatsUpTo99999() {
        TattooRoads x = row(fresh(), 0, 1, 0, 0);
        is(1, x.mark(0, 0, 99999));
        is(1, x.mark(0, 1, -99999));
        rowIs(x, 0, 99999, -99999);
    }

    static void p36_floatsAbove99999() {
        TattooRoads x = row(fresh(), 0, 1, 5);
        is(BAD, x.mark(0, 0, 100000));
        is(BAD, x.mark(0, 0, HIGH));
        rowIs(x, 0, 5);
    }

    static void p36_floatsBelowMinus99999() {
        TattooRoads x = row(fresh(), 0, 1, 5);
        is(BAD, x.mark(0, 0, -100000));
        is(BAD, x.mark(0, 0, LOW));
        is(BAD, x.mark(0, 0, NONE + 1));
        is(BAD, x.mark(0, 0, NONE - 1));
        rowIs(x, 0, 5);
    }

    static void p36_noNumber() {
        TattooRoads x = row(fresh(), 0, 1, 5);
        is(1, x.mark(0, 0, NONE));
        is(KIND, placeOf(x, 0, 0));
    }

    static void p36_aNumberAgain() {
        TattooRoads x = row(fresh(), 0, 1, NONE);
        is(1, x.mark(0, 0, -7));
        rowIs(x, 0, -7);
    }

    static void p36_answers1WhateverItWas() {
        TattooRoads x = row(fresh(), 0, 0, 5);
        is(1, x.mark(0, 0, 5));
        is(1, x.mark(0, 0, 0));
    }

    // ---- promise 37: pour

    static void p37_sheetBelow0() {
        is(BAD, fresh().pour(-1));
        is(BAD, fresh().pour(LOW));
    }

    static void p37_sheetAbove3() {
        is(BAD, fresh().pour(4));
        is(BAD, fresh().pour(HIGH));
    }

    static void p37_aMissingSheet() {
        is(NOTHING, people(fresh(), 1, 0).pour(0));
        is(NOTHING, fresh().pour(3));
    }

    static void p37_noPeople() {
        is(0, row(fresh(), 0, 0, 5).pour(0));
    }

    static void p37_noPlaces() {
        TattooRoads x = row(people(fresh(), 1, 0), 0, 0);
        x.set(0, 2, 7);
        is(0, x.pour(0));
        is(7, x.told(0, 2));
    }

    static void p37_heldWithin99() {
        TattooRoads x = row(people(fresh(), 3, 0), 0, 1, 99, 100, 99999);
        is(3, x.pour(0));
        is(99, x.told(0, 2));
        is(99, x.told(1, 2));
        is(99, x.told(2, 2));
    }

    static void p37_heldWithin0() {
        TattooRoads x = row(people(fresh(), 3, 0), 0, 0, 0, -1, -32768);
        x.set(1, 2, 5);
        x.set(2, 2, 6);
        is(2, x.pour(0));
        is(0, x.told(0, 2));
        is(0, x.told(1, 2));
        is(0, x.told(2, 2));
    }

    static void p37_noNumberStays() {
        TattooRoads x = row(people(fresh(), 2, 0), 0, 1, NONE, 8);
        x.set(0, 2, 5);
        is(1, x.pour(0));
        is(5, x.told(0, 2));
        is(8, x.told(1, 2));
    }

    static void p37_beyondTheSheetTheyStay() {
        TattooRoads x = row(people(fresh(), 3, 0), 0, 0, 8);
        x.set(1, 2, 5);
        x.set(2, 2, 6);
        is(1, x.pour(0));
        is(8, x.told(0, 2));
        is(5, x.told(1, 2));
        is(6, x.told(2, 2));
    }

    static void p37_placesBeyondThePeople() {
        TattooRoads x = people(fresh(), 8, 0);
        x.sheet(0, 0, 24);
        for (int k = 0; k < 24; k++) {
            x.mark(0, k, k + 1);
        }
        is(8, x.pour(0));
        is(8, x.told(7, 2));
    }

    static void p37_howManyAreOtherwise() {
        TattooRoads x = row(people(fresh(), 3, 0), 0, 0, 0, 1, 0);
        is(1, x.pour(0));
        is(0, x.pour(0));
    }

    static void p37_otherwiseOnceHeld() {
        TattooRoads x = row(people(fresh(), 1, 0), 0, 0, 500);
        x.set(0, 2, 99);
        is(0, x.pour(0));
    }

    static void p37_nothingFades() {
        TattooRoads x = inked(ways(people(fresh(), 1, 0), 1), 0, 0);
        row(x, 0, 0, 10).pour(0);
        is(1, x.told(0, 3));
        is(0, x.land(2));
    }

    static void p37_theSheetStays() {
        TattooRoads x = row(people(fresh(), 2, 0), 0, 1, 500, NONE);
        x.pour(0);
        rowIs(x, 0, 500, KIND);
    }

    // ---- promise 38: reads

    static void p38_sheetBelow0() {
        is(BAD, fresh().reads(-1));
        is(BAD, fresh().reads(LOW));
    }

    static void p38_sheetAbove3() {
        is(BAD, fresh().reads(4));
        is(BAD, fresh().reads(HIGH));
    }

    static void p38_aMissingSheet() {
        is(NOTHING, fresh().reads(0));
        is(NOTHING, fresh().reads(3));
    }

    static void p38_noPlaces() {
        is(NONE, row(people(fresh(), 1, 0), 0, 0).reads(0));
    }

    static void p38_allAreSo() {
        TattooRoads x = inked(ways(people(fresh(), 2, 0), 3), 1, 0, 2);
        is(NONE, row(x, 0, 0, 0, 2).reads(0));
        is(NONE, row(x, 0, 1, 0, 2).reads(0));
    }

    static void p38_theFirstOfSeveral() {
        TattooRoads x = inked(ways(people(fresh(), 3, 0), 3), 1, 0, 2);
        is(0, row(x, 0, 0, 1, 1, 1).reads(0));
        is(1, row(x, 0, 0, 0, 1, 1).reads(0));
        is(2, row(x, 0, 0, 0, 2, 1).reads(0));
    }

    static void p38_noNumbersArePassedOver() {
        TattooRoads x = people(fresh(), 3, 0);
        is(2, row(x, 0, 1, NONE, NONE, 1).reads(0));
        is(NONE, row(x, 0, 1, NONE, NONE, NONE).reads(0));
    }

    static void p38_allNumbersAreNotWhereThereIsNobody() {
        is(0, row(fresh(), 0, 0, 0).reads(0));
        is(1, row(people(fresh(), 1, 0), 0, 0, 0, 0).reads(0));
        is(8, row(people(fresh(), 8, 0), 0, 0, 0, 0, 0, 0, 0, 0, 0, 0, 0).reads(0));
    }

    static void p38_noNumbersWhereThereIsNobody() {
        is(NONE, row(fresh(), 0, 1, NONE, NONE).reads(0));
        is(2, row(fresh(), 0, 1, NONE, NONE, 0).reads(0));
    }

    static void p38_fewerPlacesThanPeople() {
        TattooRoads x = inked(ways(people(fresh(), 3, 0), 3), 2, 0);
        is(NONE, row(x, 0, 0, 0, 0).reads(0));
    }

    static void p38_theLastOf24Places() {
        TattooRoads x = fresh();
        x.sheet(0, 1, 24);
        for (int k = 0; k < 23; k++) {
            x.mark(0, k, NONE);
        }
        is(23, x.reads(0));
        x.mark(0, 23, NONE);
        is(NONE, x.reads(0));
    }

    static void p38_theSkinNotWhatItReads() {
        TattooRoads x = ways(fresh(), 4);
        x.one(FORGER, 0, 0);
        is(NONE, row(x, 0, 0, 0).reads(0));
    }

    // ---- promise 39: copy

    private static TattooRoads twoRows(int sort) {
        return row(row(fresh(), 0, sort, 1, 2, 3, 4), 1, sort, 7, 8, 9);
    }

    static void p39_fromBelow0() {
        is(BAD, twoRows(0).copy(-1, 0, 1, 0, 1));
        is(BAD, twoRows(0).copy(LOW, 0, 1, 0, 1));
    }

    static void p39_fromAbove3() {
        is(BAD, twoRows(0).copy(4, 0, 1, 0, 1));
        is(BAD, twoRows(0).copy(HIGH, 0, 1, 0, 1));
    }

    static void p39_toBelow0() {
        is(BAD, twoRows(0).copy(0, 0, -1, 0, 1));
        is(BAD, twoRows(0).copy(0, 0, LOW, 0, 1));
    }

    static void p39_toAbove3() {
        is(BAD, twoRows(0).copy(0, 0, 4, 0, 1));
        is(BAD, twoRows(0).copy(0, 0, HIGH, 0, 1));
    }

    static void p39_badStandsAheadOfNothing() {
        is(BAD, twoRows(0).copy(2, 0, 4, 0, 1));
        is(BAD, twoRows(0).copy(4, 0, 2, 0, 1));
    }

    static void p39_fromAMissingSheet() {
        is(NOTHING, twoRows(0).copy(2, 0, 0, 0, 1));
        is(NOTHING, twoRows(0).copy(3, 0, 0, 0, 0));
    }

    static void p39_toAMissingSheet() {
        is(NOTHING, twoRows(0).copy(0, 0, 2, 0, 1));
        is(NOTHING, twoRows(0).copy(0, 0, 3, 0, 0));
    }

    static void p39_nothingStandsAheadOfKindAndIndex() {
        is(NOTHING, twoRows(0).copy(2, 9, 0, 9, 9));
        is(NOTHING, twoRows(1).copy(0, -1, 2, 0, 1));
        is(NOTHING, twoRows(1).copy(2, 0, 3, 0, 1));
    }

    static void p39_notOfOneSort() {
        TattooRoads x = row(twoRows(0), 2, 1, 5, 6);
        is(KIND, x.copy(0, 0, 2, 0, 1));
        is(KIND, x.copy(2, 0, 0, 0, 1));
        is(KIND, x.copy(0, 0, 2, 0, 0));
        rowIs(x, 2, 5, 6);
    }

    static void p39_kindStandsAheadOfIndex() {
        TattooRoads x = row(twoRows(0), 2, 1, 5, 6);
        is(KIND, x.copy(0, -1, 2, 0, 1));
        is(KIND, x.copy(0, 0, 2, 9, 1));
        is(KIND, x.copy(0, 0, 2, 0, -1));
    }

    static void p39_placeBelow0() {
        is(INDEX, twoRows(0).copy(0, -1, 1, 0, 1));
        is(INDEX, twoRows(0).copy(0, -1, 1, 0, 0));
        is(INDEX, twoRows(0).copy(0, LOW, 1, 0, 1));
    }

    static void p39_placeBehindTheLast() {
        is(INDEX, twoRows(0).copy(0, 4, 1, 0, 1));
        is(INDEX, twoRows(0).copy(0, 3, 1, 0, 2));
        is(INDEX, twoRows(0).copy(0, 5, 1, 0, 0));
        is(INDEX, twoRows(0).copy(0, HIGH, 1, 0, 1));
    }

    static void p39_atBelow0() {
        is(INDEX, twoRows(0).copy(0, 0, 1, -1, 1));
        is(INDEX, twoRows(0).copy(0, 0, 1, -1, 0));
        is(INDEX, twoRows(0).copy(0, 0, 1, LOW, 1));
    }

    static void p39_atBehindTheLast() {
        is(INDEX, twoRows(0).copy(0, 0, 1, 3, 1));
        is(INDEX, twoRows(0).copy(0, 0, 1, 2, 2));
        is(INDEX, twoRows(0).copy(0, 0, 1, 4, 0));
        is(INDEX, twoRows(0).copy(0, 0, 1, HIGH, 1));
    }

    static void p39_manyBelow0() {
        is(INDEX, twoRows(0).copy(0, 0, 1, 0, -1));
        is(INDEX, twoRows(0).copy(0, 1, 1, 1, -1));
        is(INDEX, twoRows(0).copy(0, 4, 1, 3, LOW));
    }

    static void p39_moreThanThereAre() {
        is(INDEX, twoRows(0).copy(0, 0, 1, 0, 4));
        is(INDEX, twoRows(0).copy(1, 0, 0, 0, 4));
        is(INDEX, twoRows(0).copy(0, 1, 1, 1, HIGH));
    }

    static void p39_none() {
        TattooRoads x = twoRows(0);
        is(0, x.copy(0, 0, 1, 0, 0));
        is(0, x.copy(0, 4, 1, 3, 0));
        rowIs(x, 1, 7, 8, 9);
    }

    static void p39_noneOfNone() {
        TattooRoads x = row(row(fresh(), 0, 0), 1, 0);
        is(0, x.copy(0, 0, 1, 0, 0));
        is(0, x.copy(0, 0, 0, 0, 0));
        is(INDEX, x.copy(0, 0, 1, 0, 1));
    }

    static void p39_justAllOfThem() {
        TattooRoads x = twoRows(1);
        is(3, x.copy(0, 1, 1, 0, 3));
        rowIs(x, 1, 2, 3, 4);
        rowIs(x, 0, 1, 2, 3, 4);
    }

    static void p39_allTwentyFour() {
        TattooRoads x = fresh();
        x.sheet(0, 0, 24);
        x.sheet(1, 0, 24);
        x.mark(0, 0, 5);
        x.mark(0, 23, 6);
        is(24, x.copy(0, 0, 1, 0, 24));
        is(5, placeOf(x, 1, 0));
        is(6, placeOf(x, 1, 23));
    }

    static void p39_noNumberComesToo() {
        TattooRoads x = row(row(fresh(), 0, 1, NONE, 5), 1, 1, 1, 2);
        is(1, x.copy(0, 0, 1, 1, 1));
        rowIs(x, 1, 1, KIND);
    }

    static void p39_toTheSameUpwards() {
        TattooRoads x = row(fresh(), 0, 0, 1, 2, 3, 4);
        is(3, x.copy(0, 0, 0, 1, 3));
        rowIs(x, 0, 1, 1, 2, 3);
    }

    static void p39_toTheSameDownwards() {
        TattooRoads x = row(fresh(), 0, 1, 1, NONE, 3, 4);
        is(3, x.copy(0, 1, 0, 0, 3));
        rowIs(x, 0, KIND, 3, 4, 4);
    }

    static void p39_refusedNothingComes() {
        TattooRoads x = twoRows(0);
        x.copy(0, 0, 1, 0, 4);
        x.copy(0, 0, 1, 2, 2);
        x.copy(0, 3, 1, 0, 2);
        rowIs(x, 1, 7, 8, 9);
    }

    // ---- promise 40: lay

    static void p40_slotBelow0() {
        is(BAD, fresh().lay(-1, 0, 0));
        is(BAD, fresh().lay(LOW, 0, 0));
    }

    static void p40_slotAbove4() {
        is(BAD, fresh().lay(5, 0, 0));
        is(BAD, fresh().lay(HIGH, 3, 0));
    }

    static void p40_slots0To4EachItsOwn() {
        TattooRoads x = fresh();
        for (int slot = 0; slot <= 4; slot++) {
            is(0, x.lay(slot, 3, slot + 20));
        }
        for (int slot = 0; slot <= 4; slot++) {
            is(slot + 20, x.rest(slot, 100));
        }
    }

    static void p40_thingBelow0() {
        is(BAD, people(fresh(), 1, 0).lay(0, -1, 0));
        is(BAD, people(fresh(), 1, 0).lay(0, LOW, 0));
    }

    static void p40_thingAbove3() {
        is(BAD, people(fresh(), 1, 0).lay(0, 4, 0));
        is(BAD, people(fresh(), 1, 0).lay(0, HIGH, 0));
    }

    static void p40_aOneThatIsNot() {
        is(BAD, fresh().lay(0, 1, 0));
        is(BAD, people(fresh(), 1, 0).lay(0, 1, 1));
        is(BAD, people(fresh(), 1, 0).lay(0, 1, -1));
        is(BAD, people(fresh(), 8, 0).lay(0, 1, 8));
        is(BAD, people(fresh(), 8, 0).lay(0, 1, LOW));
    }

    static void p40_aSheetThatIsNot() {
        is(BAD, fresh().lay(0, 2, -1));
        is(BAD, fresh().lay(0, 2, 4));
        is(BAD, fresh().lay(0, 2, HIGH));
    }

    static void p40_aSheetThatIsMissing() {
        is(NOTHING, fresh().lay(0, 2, 0));
        is(NOTHING, fresh().lay(4, 2, 3));
        is(BAD, fresh().lay(5, 2, 3));
    }

    static void p40_anyNumber() {
        int[] any = {0, -1, LOW, HIGH, NONE, BAD};
        for (int k : any) {
            TattooRoads x = fresh();
            is(0, x.lay(0, 3, k));
            is(k % 1000, x.rest(0, 1000));
        }
    }

    static void p40_nothingWithAnyK() {
        int[] any = {0, -1, 9, LOW, HIGH};
        for (int k : any) {
            TattooRoads x = fresh();
            x.lay(0, 3, 5);
            is(3, x.lay(0, 0, k));
            is(NOTHING, x.rest(0, 1));
        }
    }

    static void p40_aSheetOfNoPlaces() {
        TattooRoads x = row(fresh(), 0, 0);
        is(0, x.lay(0, 2, 0));
        is(INDEX, x.item(0, 0));
        is(2, x.lay(0, 0, 0));
    }

    static void p40_whatItHeld() {
        TattooRoads x = row(people(fresh(), 1, 0), 3, 1, 5);
        is(0, x.lay(2, 0, 0));
        is(0, x.lay(2, 1, 0));
        is(1, x.lay(2, 1, 0));
        is(1, x.lay(2, 2, 3));
        is(2, x.lay(2, 2, 3));
        is(2, x.lay(2, 3, 3));
        is(3, x.lay(2, 3, 3));
        is(3, x.lay(2, 0, 3));
        is(0, x.lay(2, 0, 3));
    }

    static void p40_refusedItHoldsWhatItHeld() {
        TattooRoads x = fresh();
        x.lay(0, 3, 77);
        x.lay(0, 1, 0);
        x.lay(0, 2, 0);
        x.lay(0, 2, 4);
        x.lay(0, 4, 0);
        is(77, x.rest(0, 100));
        is(3, x.lay(0, 0, 0));
    }

    static void p40_aOneAsItIsThenForGood() {
        TattooRoads x = ways(fresh(), 3);
        x.one(GUIDE, 0, 0);
        inked(x, 0, 1);
        x.lay(0, 1, 0);
        x.turns(0, CHILD);
        inked(x, 0, 2);
        is(6, x.ask(0, GUIDE));
        is(KIND, x.ask(0, CHILD));
    }

    static void p40_aOneWhoIsGoneWithAnImage() {
        TattooRoads x = fresh();
        x.keep();
        x.one(ELDER, 0, 0);
        x.lay(0, 1, 0);
        x.back();
        is(10, x.ask(0, ONE));
    }

    static void p40_aSheetIsARowOfItsOwn() {
        TattooRoads x = row(fresh(), 0, 0, 1, 2);
        x.lay(0, 2, 0);
        x.mark(0, 0, 9);
        is(1, x.item(0, 0));
        x.sheet(0, 0, 1);
        is(2, x.item(0, 1));
        x.sheet(0, -1, 0);
        is(1, x.item(0, 0));
        is(INDEX, x.item(0, 2));
    }

    static void p40_twoSlotsOfOneSheet() {
        TattooRoads x = row(fresh(), 0, 0, 1);
        x.lay(0, 2, 0);
        x.mark(0, 0, 9);
        x.lay(1, 2, 0);
        is(1, x.item(0, 0));
        is(9, x.item(1, 0));
    }

    static void p40_aSheetOf24Places() {
        TattooRoads x = fresh();
        x.sheet(0, 0, 24);
        x.mark(0, 23, 5);
        x.lay(0, 2, 0);
        is(5, x.item(0, 23));
        is(INDEX, x.item(0, 24));
    }

    // ---- promise 41: ask

    private static TattooRoads slots() {
        TattooRoads x = row(fresh(), 0, 1, 4, NONE);
        x.one(TWIN, 0, 0);
        x.lay(0, 1, 0);
        x.lay(1, 2, 0);
        x.lay(2, 3, 17);
        return x;
    }

    static void p41_slotBelow0() {
        is(BAD, slots().ask(-1, 0));
        is(BAD, slots().ask(LOW, 0));
    }

    static void p41_slotAbove4() {
        is(BAD, slots().ask(5, 0));
        is(BAD, slots().ask(HIGH, 0));
    }

    static void p41_kindBelow0() {
        is(BAD, slots().ask(0, -1));
        is(BAD, slots().ask(0, LOW));
    }

    static void p41_kindAbove5() {
        is(BAD, slots().ask(0, 6));
        is(BAD, slots().ask(0, HIGH));
    }

    static void p41_badStandsAheadOfNothing() {
        is(BAD, slots().ask(3, 6));
        is(BAD, slots().ask(3, -1));
    }

    static void p41_badStandsAheadOfKind() {
        is(BAD, slots().ask(1, 6));
        is(BAD, slots().ask(2, -1));
    }

    static void p41_aSlotThatHoldsNothing() {
        is(NOTHING, slots().ask(3, 0));
        is(NOTHING, slots().ask(4, 5));
    }

    static void p41_aSheetIsNoOne() {
        is(KIND, slots().ask(1, 0));
    }

    static void p41_aNumberIsNoOne() {
        is(KIND, slots().ask(2, 0));
    }

    static void p41_ofThatKindOrUnderIt() {
        is(36, slots().ask(0, ONE));
        is(36, slots().ask(0, CHILD));
        is(36, slots().ask(0, TWIN));
    }

    static void p41_notOfThatKind() {
        is(KIND, slots().ask(0, GUIDE));
        is(KIND, slots().ask(0, ELDER));
        is(KIND, slots().ask(0, FORGER));
    }

    static void p41_worthIsItsOwnWhateverItIsTakenFor() {
        TattooRoads x = ways(fresh(), 14);
        x.one(ELDER, 0, 0);
        inked(x, 0, 0, 13);
        x.lay(4, 1, 0);
        is(14, x.ask(4, ONE));
        is(14, x.ask(4, GUIDE));
        is(14, x.ask(4, ELDER));
    }

    // ---- promise 42: item

    static void p42_slotBelow0() {
        is(BAD, slots().item(-1, 0));
        is(BAD, slots().item(LOW, 0));
    }

    static void p42_slotAbove4() {
        is(BAD, slots().item(5, 0));
        is(BAD, slots().item(HIGH, 0));
    }

    static void p42_aSlotThatHoldsNothing() {
        is(NOTHING, slots().item(3, 0));
        is(NOTHING, slots().item(4, -1));
    }

    static void p42_aOneIsNoSheet() {
        is(KIND, slots().item(0, 0));
        is(KIND, slots().item(0, -1));
    }

    static void p42_aNumberIsNoSheet() {
        is(KIND, slots().item(2, 0));
        is(KIND, slots().item(2, 99));
    }

    static void p42_placeBelow0() {
        is(INDEX, slots().item(1, -1));
        is(INDEX, slots().item(1, LOW));
    }

    static void p42_placeBehindTheLast() {
        is(INDEX, slots().item(1, 2));
        is(INDEX, slots().item(1, 24));
        is(INDEX, slots().item(1, HIGH));
    }

    static void p42_noNumber() {
        is(KIND, slots().item(1, 1));
    }

    static void p42_aNumber() {
        is(4, slots().item(1, 0));
    }

    static void p42_indexStandsAheadOfNoNumber() {
        is(INDEX, row(slots(), 0, 1, NONE).item(1, 2));
    }

    // ---- promise 43: rest

    static void p43_slotBelow0() {
        is(BAD, slots().rest(-1, 1));
        is(BAD, slots().rest(LOW, 1));
    }

    static void p43_slotAbove4() {
        is(BAD, slots().rest(5, 1));
        is(BAD, slots().rest(HIGH, 0));
    }

    static void p43_aSlotThatHoldsNothing() {
        is(NOTHING, slots().rest(3, 1));
    }

    static void p43_nothingStandsAheadOfNo() {
        is(NOTHING, slots().rest(3, 0));
    }

    static void p43_aOneIsNoNumber() {
        is(KIND, slots().rest(0, 1));
    }

    static void p43_aSheetIsNoNumber() {
        is(KIND, slots().rest(1, 1));
    }

    static void p43_kindStandsAheadOfNo() {
        is(KIND, slots().rest(0, 0));
        is(KIND, slots().rest(1, 0));
    }

    static void p43_nIs0() {
        is(NO, slots().rest(2, 0));
    }

    static void p43_byANumberBelow0() {
        is(2, slots().rest(2, -5));
    }

    static void p43_ofANumberBelow0() {
        TattooRoads x = fresh();
        x.lay(0, 3, -17);
        is(-2, x.rest(0, 5));
        is(-2, x.rest(0, -5));
        is(0, x.rest(0, 17));
    }

    static void p43_ofTheLowestByMinus1() {
        TattooRoads x = fresh();
        x.lay(0, 3, LOW);
        is(0, x.rest(0, -1));
        is(0, x.rest(0, LOW));
        is(-1, x.rest(0, HIGH));
    }

    static void p43_of0() {
        TattooRoads x = fresh();
        x.lay(0, 3, 0);
        is(0, x.rest(0, 5));
        is(NO, x.rest(0, 0));
    }

    static void p43_byAGreaterOne() {
        is(17, slots().rest(2, HIGH));
        is(17, slots().rest(2, LOW));
        is(0, slots().rest(2, 17));
        is(17, slots().rest(2, 18));
    }
}
