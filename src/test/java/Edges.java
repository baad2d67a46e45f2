import java.lang.reflect.Method;
import java.util.Arrays;
import java.util.Comparator;

/**
 * Tests of boundary cases, a method for each sentence: pNN_.. is a test of promise NN, on objects of its own.
 * A class of such tests is run whole, and each promise it is for must have one.
 */
abstract class Edges {
    static final int BAD = TattooRoads.BAD, NO = TattooRoads.NO, FULL = TattooRoads.FULL, NONE = TattooRoads.NONE;
    static final int NOTHING = TattooRoads.NOTHING, KIND = TattooRoads.KIND, INDEX = TattooRoads.INDEX, SIZE = TattooRoads.SIZE;
    static final int ONE = 0, GUIDE = 1, CHILD = 2, ELDER = 3, TWIN = 4, FORGER = 5;
    static final int LOW = Integer.MIN_VALUE, HIGH = Integer.MAX_VALUE;

    private static String test = "";
    private static int asked = 0;
    private static int asksOfTest = 0;
    private static int wrong = 0;

    static void is(long want, long got) {
        asked++;
        asksOfTest++;
        if (got != want) {
            wrong++;
            System.out.println(test + ", its answer " + asksOfTest + " was " + got + ", due is " + want);
        }
    }

    static void run(Class<?> tests, int firstPromise, int lastPromise) throws ReflectiveOperationException {
        Method[] methods = tests.getDeclaredMethods();
        Arrays.sort(methods, Comparator.comparing(Method::getName));
        int[] testsOf = new int[lastPromise + 1];
        int many = 0;
        for (Method method : methods) {
            if (method.getName().matches("p\\d\\d_\\w+")) {
                test = method.getName();
                asksOfTest = 0;
                method.invoke(null);
                many++;
                testsOf[Integer.parseInt(test.substring(1, 3))]++;
                if (asksOfTest == 0) {
                    wrong++;
                    System.out.println(test + " asks nothing");
                }
            }
        }
        for (int promise = firstPromise; promise <= lastPromise; promise++) {
            if (testsOf[promise] == 0) {
                wrong++;
                System.out.println("promise " + promise + " has no test");
            }
        }
        System.out.println(many + " tests, " + asked + " answers, " + wrong + " not as due");
        if (wrong != 0) {
            System.exit(1);
        }
    }

    static TattooRoads fresh() {
        return new TattooRoads();
    }

    /** Nobody wanders, no WAY slips. */
    static TattooRoads still() {
        TattooRoads x = new TattooRoads();
        x.rule(0, 0);
        x.rule(1, 0);
        return x;
    }

    /** All wander each day, no WAY slips. */
    static TattooRoads restless() {
        TattooRoads x = new TattooRoads();
        x.rule(0, 100);
        x.rule(1, 0);
        return x;
    }

    /** So many more ONES in a PLACE, of AGE 0. */
    static TattooRoads people(TattooRoads x, int many, int place) {
        for (int i = 0; i < many; i++) {
            x.one(ONE, place, 0);
        }
        return x;
    }

    /** So many more WAYS from PLACE 0 to PLACE 1. */
    static TattooRoads ways(TattooRoads x, int many) {
        for (int i = 0; i < many; i++) {
            x.way(0, 1);
        }
        return x;
    }

    static TattooRoads inked(TattooRoads x, int one, int... ways) {
        for (int way : ways) {
            x.ink(one, way);
        }
        return x;
    }

    /** A SHEET becomes a row of these. */
    static TattooRoads row(TattooRoads x, int sheet, int sort, int... values) {
        x.sheet(sheet, sort, values.length);
        for (int k = 0; k < values.length; k++) {
            x.mark(sheet, k, values[k]);
        }
        return x;
    }

    /** A place of a SHEET, told by way of slot 4. */
    static int placeOf(TattooRoads x, int sheet, int place) {
        x.lay(4, 2, sheet);
        return x.item(4, place);
    }

    static void rowIs(TattooRoads x, int sheet, int... want) {
        x.lay(4, 2, sheet);
        for (int k = 0; k < want.length; k++) {
            is(want[k], x.item(4, k));
        }
        is(INDEX, x.item(4, want.length));
    }

    static void tell(TattooRoads x, int... numbers) {
        for (int v : numbers) {
            x.tell(v);
        }
    }

    static String times(String signs, int many) {
        return signs.repeat(many);
    }

    /** The least seed from 0 on whose first draw has this rest by 100. */
    static int seedOfRest(int rest) {
        int seed = 0;
        while (new Draws(seed).next() % 100 != rest) {
            seed++;
        }
        return seed;
    }
}
