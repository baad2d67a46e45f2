/** Promises 35 to 43: sheets, slots. */
public final class SheetsSlotsTest {
    private static final int BAD = TattooRoads.BAD, NO = TattooRoads.NO, NONE = TattooRoads.NONE;
    private static final int NOTHING = TattooRoads.NOTHING, KIND = TattooRoads.KIND, INDEX = TattooRoads.INDEX, SIZE = TattooRoads.SIZE;
    private static final int ONE = 0, GUIDE = 1, CHILD = 2, ELDER = 3, TWIN = 4, FORGER = 5;
    private static final int LOW = Integer.MIN_VALUE, HIGH = Integer.MAX_VALUE;
    private static final Due due = new Due();

    public static void main(String[] args) {
        sheetsBecomeRows();
        sheetsThatAreRefused();
        marksOfShorts();
        marksOfFloats();
        marksThatAreRefused();
        pouring();
        reading();
        copying();
        copyingWithinOne();
        copiesThatAreRefused();
        laying();
        layingThatIsRefused();
        slotsHoldForGood();
        asking();
        items();
        rests();
        due.end();
    }

    /** A place of a SHEET, told by way of slot 4. */
    private static int placeOf(TattooRoads x, int sheet, int place) {
        x.lay(4, 2, sheet);
        return x.item(4, place);
    }

    private static void places(TattooRoads x, String call, int sheet, int... want) {
        for (int k = 0; k < want.length; k++) {
            due.is(call + ", place " + k, want[k], placeOf(x, sheet, k));
        }
        due.is(call + ", its size", INDEX, placeOf(x, sheet, want.length));
    }

    private static void fill(TattooRoads x, int sheet, int sort, int... values) {
        x.sheet(sheet, sort, values.length);
        for (int k = 0; k < values.length; k++) {
            x.mark(sheet, k, values[k]);
        }
    }

    private static void sheetsBecomeRows() {
        TattooRoads x = new TattooRoads();
        due.is("24 places", 24, x.sheet(3, 1, 24));
        due.is("no places", 0, x.sheet(0, 0, 0));
        due.is("it has no place", INDEX, x.mark(0, 0, 0));
        due.is("but is not missing", NONE, x.reads(0));
        fill(x, 1, 0, 5, 6, 7);
        due.is("a row again", 3, x.sheet(1, 0, 3));
        places(x, "all 0", 1, 0, 0, 0);
        due.is("missing", 0, x.sheet(1, -1, 3));
        due.is("it is missing", NOTHING, x.reads(1));
        due.is("missing again", 0, x.sheet(1, -1, LOW));
        due.is("missing, n any", 0, x.sheet(1, -1, HIGH));
        fill(x, 2, 1, 9, NONE, 9, 9);
        x.sheet(2, 1, 2);
        x.sheet(2, 1, 4);
        places(x, "shorter and longer", 2, 0, 0, 0, 0);
    }

    private static void sheetsThatAreRefused() {
        TattooRoads x = new TattooRoads();
        fill(x, 0, 0, 1, 2);
        int[][] bad = {{-1, 0, 1}, {4, 0, 1}, {0, -2, 1}, {0, 2, 1}, {0, 0, 25}, {0, 1, HIGH}, {-1, 0, -1}, {0, 2, -1},
            {4, -1, 0}, {LOW, LOW, LOW}};
        for (int[] w : bad) {
            due.is("sheet wrong " + w[0] + " " + w[1] + " " + w[2], BAD, x.sheet(w[0], w[1], w[2]));
        }
        due.is("below 0", SIZE, x.sheet(0, 0, -1));
        due.is("the lowest", SIZE, x.sheet(0, 1, LOW));
        places(x, "nothing changed", 0, 1, 2);
    }

    private static void marksOfShorts() {
        TattooRoads x = new TattooRoads();
        x.sheet(0, 0, 8);
        int[] values = {32767, 32768, -32768, -32769, 65536, 65535, HIGH, BAD};
        int[] then = {32767, -32768, -32768, 32767, 0, -1, -1, (short) BAD};
        for (int k = 0; k < 8; k++) {
            due.is("mark " + values[k], 1, x.mark(0, k, values[k]));
        }
        places(x, "lowest 16 bits", 0, then);
    }

    private static void marksOfFloats() {
        TattooRoads x = new TattooRoads();
        x.sheet(0, 1, 4);
        int[] values = {99999, -99999, NONE, 16385};
        for (int k = 0; k < 4; k++) {
            due.is("mark " + values[k], 1, x.mark(0, k, values[k]));
        }
        places(x, "floats", 0, 99999, -99999, KIND, 16385);
        due.is("no number becomes one", 1, x.mark(0, 2, -3));
        places(x, "floats then", 0, 99999, -99999, -3, 16385);
    }

    private static void marksThatAreRefused() {
        TattooRoads x = new TattooRoads();
        due.is("BAD ahead of NOTHING", BAD, x.mark(4, 0, 0));
        due.is("sheet -1", BAD, x.mark(-1, 0, 0));
        due.is("NOTHING ahead of INDEX", NOTHING, x.mark(0, -1, 0));
        fill(x, 0, 0, 7, 7);
        fill(x, 1, 1, 8, 8);
        due.is("place 2", INDEX, x.mark(0, 2, 0));
        due.is("place -1", INDEX, x.mark(0, -1, 0));
        due.is("place lowest", INDEX, x.mark(1, LOW, 0));
        due.is("INDEX ahead of KIND", INDEX, x.mark(0, 2, NONE));
        due.is("NONE in shorts", KIND, x.mark(0, 1, NONE));
        due.is("INDEX ahead of v", INDEX, x.mark(1, 2, 100000));
        due.is("v above", BAD, x.mark(1, 0, 100000));
        due.is("v below", BAD, x.mark(1, 0, -100000));
        due.is("v lowest", BAD, x.mark(1, 0, LOW));
        due.is("v beside NONE", BAD, x.mark(1, 0, NONE + 1));
        places(x, "nothing changed", 0, 7, 7);
        places(x, "nothing changed in floats", 1, 8, 8);
    }

    private static void pouring() {
        TattooRoads x = new TattooRoads();
        due.is("no such sheet", BAD, x.pour(4));
        due.is("sheet -1", BAD, x.pour(-1));
        due.is("missing", NOTHING, x.pour(0));
        fill(x, 0, 1, 0, 100, -1, NONE, 44);
        due.is("nobody", 0, x.pour(0));
        for (int i = 0; i < 6; i++) {
            x.one(ONE, 0, 10 * i);
        }
        due.is("three are otherwise", 3, x.pour(0));
        int[] ages = {0, 99, 0, 30, 44, 50};
        for (int i = 0; i < 6; i++) {
            due.is("age of " + i, ages[i], x.told(i, 2));
        }
        due.is("none is otherwise", 0, x.pour(0));
        fill(x, 1, 0, 1, 2, 3, 4, 5, 6, 7, 8);
        due.is("all six are otherwise", 6, x.pour(1));
        due.is("the last", 6, x.told(5, 2));
        places(x, "the sheet stays", 0, 0, 100, -1, KIND, 44);
    }

    private static void reading() {
        TattooRoads x = new TattooRoads();
        due.is("no such sheet", BAD, x.reads(4));
        due.is("sheet -1", BAD, x.reads(-1));
        due.is("missing", NOTHING, x.reads(3));
        x.way(0, 1);
        x.way(0, 1);
        for (int i = 0; i < 3; i++) {
            x.one(CHILD, 9, 0);
        }
        x.ink(1, 0);
        x.ink(1, 1);
        x.ink(2, 1);
        fill(x, 0, 1, 0, 2, 1);
        due.is("all are so", NONE, x.reads(0));
        x.mark(0, 2, 2);
        due.is("the last is not", 2, x.reads(0));
        x.mark(0, 1, 3);
        due.is("the first that is not", 1, x.reads(0));
        x.mark(0, 1, NONE);
        due.is("of numbers alone", 2, x.reads(0));
        fill(x, 1, 0, 0, 2, 1, 0);
        due.is("a number for nobody", 3, x.reads(1));
        fill(x, 1, 1, 0, 2, 1, NONE, NONE, 0);
        due.is("a number for nobody, behind no numbers", 5, x.reads(1));
        fill(x, 2, 0, 0, 2);
        due.is("a short row", NONE, x.reads(2));
        x.mark(2, 0, 1);
        due.is("the very first is not", 0, x.reads(2));
    }

    private static void copying() {
        TattooRoads x = new TattooRoads();
        fill(x, 0, 1, 1, NONE, 3, 4, 5);
        fill(x, 1, 1, 9, 9, 9);
        due.is("copy two", 2, x.copy(0, 1, 1, 1, 2));
        places(x, "copied", 1, 9, KIND, 3);
        places(x, "the other stays", 0, 1, KIND, 3, 4, 5);
        due.is("copy none", 0, x.copy(0, 0, 1, 0, 0));
        due.is("copy none behind the last", 0, x.copy(0, 5, 1, 3, 0));
        due.is("copy three", 3, x.copy(0, 2, 1, 0, 3));
        places(x, "copied then", 1, 3, 4, 5);
    }

    private static void copyingWithinOne() {
        TattooRoads x = new TattooRoads();
        fill(x, 2, 0, 1, 2, 3, 4, 5);
        due.is("up", 4, x.copy(2, 0, 2, 1, 4));
        places(x, "as they were, up", 2, 1, 1, 2, 3, 4);
        due.is("down", 3, x.copy(2, 2, 2, 0, 3));
        places(x, "as they were, down", 2, 2, 3, 4, 3, 4);
        due.is("onto itself", 5, x.copy(2, 0, 2, 0, 5));
        places(x, "as they are", 2, 2, 3, 4, 3, 4);
    }

    private static void copiesThatAreRefused() {
        TattooRoads x = new TattooRoads();
        fill(x, 0, 0, 1, 2, 3);
        fill(x, 1, 0, 7, 8);
        fill(x, 2, 1, 7, 8);
        due.is("from 4", BAD, x.copy(4, 0, 0, 0, 1));
        due.is("from -1", BAD, x.copy(-1, 0, 0, 0, 1));
        due.is("to 4", BAD, x.copy(0, 0, 4, 0, 1));
        due.is("to -1", BAD, x.copy(3, 0, -1, 0, 1));
        due.is("from a missing one", NOTHING, x.copy(3, 0, 0, 0, 1));
        due.is("to a missing one", NOTHING, x.copy(0, 0, 3, 0, 1));
        due.is("NOTHING ahead of INDEX", NOTHING, x.copy(0, 9, 3, 9, 9));
        due.is("not of one sort", KIND, x.copy(0, 0, 2, 0, 1));
        due.is("KIND ahead of INDEX", KIND, x.copy(0, 9, 2, 0, 1));
        due.is("KIND, with none to copy", KIND, x.copy(0, 0, 2, 0, 0));
        int[][] wrong = {{-1, 0, 1}, {0, -1, 1}, {3, 0, 1}, {0, 2, 1}, {2, 0, 2}, {0, 1, 2}, {0, 0, 3}, {4, 0, 0}, {0, 3, 0},
            {0, 0, HIGH}, {HIGH, 0, 1}, {0, HIGH, 1}, {1, 1, HIGH}, {LOW, 0, 0}, {0, 0, -1}, {2, 2, LOW}};
        for (int[] w : wrong) {
            due.is("copy wrong " + w[0] + " " + w[1] + " " + w[2], INDEX, x.copy(0, w[0], 1, w[1], w[2]));
        }
        places(x, "nothing changed", 1, 7, 8);
    }

    private static void laying() {
        TattooRoads x = new TattooRoads();
        x.one(ONE, 0, 0);
        x.sheet(0, 0, 0);
        due.is("one", 0, x.lay(0, 1, 0));
        due.is("a sheet", 1, x.lay(0, 2, 0));
        due.is("a number", 2, x.lay(0, 3, LOW));
        due.is("a number again", 3, x.lay(0, 3, HIGH));
        due.is("nothing", 3, x.lay(0, 0, HIGH));
        due.is("nothing again", 0, x.lay(0, 0, -1));
        due.is("it holds nothing", NOTHING, x.rest(0, 1));
        for (int slot = 0; slot < 5; slot++) {
            due.is("slot " + slot, 0, x.lay(slot, 3, 100 + slot));
        }
        for (int slot = 0; slot < 5; slot++) {
            due.is("each its own " + slot, slot, x.rest(slot, 100));
        }
    }

    private static void layingThatIsRefused() {
        TattooRoads x = new TattooRoads();
        x.one(ONE, 0, 0);
        x.lay(1, 3, 77);
        int[][] wrong = {{-1, 0, 0}, {5, 0, 0}, {1, -1, 0}, {1, 4, 0}, {1, 1, 1}, {1, 1, -1}, {1, 2, 4}, {1, 2, -1}, {LOW, HIGH, 0}};
        for (int[] w : wrong) {
            due.is("lay wrong " + w[0] + " " + w[1] + " " + w[2], BAD, x.lay(w[0], w[1], w[2]));
        }
        due.is("a missing sheet", NOTHING, x.lay(1, 2, 3));
        due.is("it holds what it held", 7, x.rest(1, 10));
    }

    private static void slotsHoldForGood() {
        TattooRoads x = new TattooRoads();
        x.way(0, 1);
        x.one(GUIDE, 0, 0);
        x.ink(0, 0);
        x.lay(0, 1, 0);
        x.scar(0, 0);
        x.turns(0, FORGER);
        due.is("as it was then", 6, x.ask(0, GUIDE));
        fill(x, 2, 1, 5, 6, NONE);
        x.lay(1, 2, 2);
        x.mark(2, 0, 50);
        x.mark(2, 2, 50);
        due.is("a row of its own", 5, x.item(1, 0));
        due.is("no number in it", KIND, x.item(1, 2));
        x.sheet(2, 0, 20);
        due.is("its size as it was", INDEX, x.item(1, 3));
        x.sheet(2, -1, 0);
        due.is("though the sheet is missing", 6, x.item(1, 1));
        x.keep();
        x.lay(0, 3, 9);
        x.back();
        due.is("an image does not keep it", 1, x.rest(0, 2));
    }

    private static void asking() {
        TattooRoads x = new TattooRoads();
        x.way(0, 1);
        x.way(0, 1);
        int[] worth = {2, 7, 38, 14, 34, 3};
        int[] under = {0b000001, 0b000011, 0b000101, 0b001011, 0b010101, 0b100001};
        for (int kind = 0; kind < 6; kind++) {
            x.one(kind, 0, 0);
            x.ink(kind, 0);
            x.ink(kind, 1);
            x.lay(2, 1, kind);
            for (int as = 0; as < 6; as++) {
                due.is("ask " + kind + " as " + as, (under[kind] >> as & 1) != 0 ? worth[kind] : KIND, x.ask(2, as));
            }
        }
        due.is("slot 5", BAD, x.ask(5, 0));
        due.is("slot -1", BAD, x.ask(-1, 0));
        due.is("kind 6", BAD, x.ask(2, 6));
        due.is("kind -1", BAD, x.ask(2, -1));
        due.is("BAD ahead of NOTHING", BAD, x.ask(0, 6));
        due.is("nothing", NOTHING, x.ask(0, 0));
        x.lay(2, 3, 0);
        due.is("a number is no one", KIND, x.ask(2, 0));
        x.sheet(0, 0, 1);
        x.lay(2, 2, 0);
        due.is("a sheet is no one", KIND, x.ask(2, 0));
    }

    private static void items() {
        TattooRoads x = new TattooRoads();
        x.one(ONE, 0, 0);
        fill(x, 0, 1, 4, NONE);
        x.lay(0, 2, 0);
        x.lay(1, 3, 0);
        x.lay(2, 1, 0);
        due.is("an item", 4, x.item(0, 0));
        due.is("no number", KIND, x.item(0, 1));
        due.is("place 2", INDEX, x.item(0, 2));
        due.is("place -1", INDEX, x.item(0, -1));
        due.is("place lowest", INDEX, x.item(0, LOW));
        due.is("a number is no sheet", KIND, x.item(1, 0));
        due.is("KIND ahead of INDEX", KIND, x.item(2, -1));
        due.is("nothing", NOTHING, x.item(3, -1));
        due.is("slot 5", BAD, x.item(5, 0));
        due.is("slot -1", BAD, x.item(-1, 0));
    }

    private static void rests() {
        TattooRoads x = new TattooRoads();
        x.one(ONE, 0, 0);
        x.sheet(0, 0, 1);
        x.lay(0, 3, -17);
        x.lay(1, 3, LOW);
        x.lay(2, 1, 0);
        x.lay(3, 2, 0);
        due.is("cuts towards 0", -2, x.rest(0, 5));
        due.is("by a number below 0", -2, x.rest(0, -5));
        due.is("by the lowest", -17, x.rest(0, LOW));
        due.is("the lowest by -1", 0, x.rest(1, -1));
        due.is("n is 0", NO, x.rest(0, 0));
        due.is("one is no number", KIND, x.rest(2, 0));
        due.is("a sheet is no number", KIND, x.rest(3, 0));
        due.is("nothing", NOTHING, x.rest(4, 0));
        due.is("slot 5", BAD, x.rest(5, 0));
        due.is("slot -1", BAD, x.rest(-1, 0));
    }
}
