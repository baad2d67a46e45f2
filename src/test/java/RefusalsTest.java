import java.util.ArrayList;
import java.util.List;

/**
 * "A call that is refused .. changes nothing (but the tape and the numbers that wait, where told)": all that can be
 * told of an object behind a refused call is what is told of its twin that was not asked. So, too, for each call that
 * only tells or thinks.
 */
public final class RefusalsTest {
    private static final int BAD = TattooRoads.BAD, NO = TattooRoads.NO, FULL = TattooRoads.FULL, NONE = TattooRoads.NONE;
    private static final int NOTHING = TattooRoads.NOTHING, KIND = TattooRoads.KIND, INDEX = TattooRoads.INDEX, SIZE = TattooRoads.SIZE;
    private static final int LOW = Integer.MIN_VALUE, HIGH = Integer.MAX_VALUE;
    private static final Due due = new Due();

    private interface Scene {
        TattooRoads made();
    }

    private interface Call {
        int on(TattooRoads x);
    }

    public static void main(String[] args) {
        refusedInALandOfSome();
        refusedInAFullLand();
        refusedInAnEmptyLand();
        theTapeAndTheNumbersThatWait();
        callsThatOnlyTell();
        due.end();
    }

    // ---- scenes: each is made anew for each call, and is always the same

    /** Three people, three ways, two texts, an image, a tape, numbers that wait, each kind of sheet and slot. */
    private static TattooRoads some() {
        TattooRoads x = new TattooRoads();
        x.seed(41);
        for (int i = 0; i < 3; i++) {
            x.way(i, i + 1);
        }
        x.one(1, 0, 18);
        x.one(2, 1, 28);
        x.one(3, 1, 31);
        x.ink(0, 0);
        x.ink(1, 1);
        x.ink(2, 2);
        Tapes.tell(x, "urge w+a");
        Tapes.tell(x, "fee k*10+i");
        x.days(5);
        x.keep();
        x.days(1);
        x.slides(2);
        sheets(x);
        x.tell(7);
        x.tell(3);
        x.tell(5);
        Tapes.feed(x, "fine s+p");
        return x;
    }

    private static void sheets(TattooRoads x) {
        x.sheet(0, 0, 3);
        x.mark(0, 0, 20);
        x.mark(0, 2, -7);
        x.sheet(1, 1, 2);
        x.mark(1, 0, NONE);
        x.mark(1, 1, 31);
        x.sheet(2, 0, 0);
        x.lay(0, 1, 2);
        x.lay(1, 2, 1);
        x.lay(2, 3, -17);
        x.lay(4, 2, 0);
    }

    /** As many as there may be of all. */
    private static TattooRoads full() {
        TattooRoads x = new TattooRoads();
        for (int i = 0; i < 14; i++) {
            x.way(i % 10, (i + 1) % 10);
        }
        x.deal(8);
        for (int i = 0; i < 14; i++) {
            Tapes.tell(x, i % 3 == 0 ? "urge w+" + i : i % 3 == 1 ? "fee k+" + i : "fine s+" + i);
        }
        x.keep();
        x.days(3);
        sheets(x);
        for (int i = 0; i < 60; i++) {
            x.tell(i);
        }
        for (int i = 0; i < 8; i++) {
            x.feed('f' << 24 | 'e' << 16 | 'e' << 8 | ' ', 0x31313131, 0x20202020);
        }
        return x;
    }

    // ---- all that can be told, in three parts: to tell one of them changes what the next would tell

    private static List<Integer> all(Scene scene, Call call) {
        List<Integer> told = new ArrayList<>();
        for (int part = 0; part < 3; part++) {
            TattooRoads x = scene.made();
            call.on(x);
            if (part == 0) {
                land(x, told);
            } else if (part == 1) {
                slotsAndSheets(x, told);
            } else {
                rowsAndImage(x, told);
            }
        }
        return told;
    }

    private static void land(TattooRoads x, List<Integer> told) {
        for (int what = 0; what < 9; what++) {
            told.add(x.count(what));
        }
        for (int what = 0; what < 6; what++) {
            told.add(x.land(what));
        }
        for (int one = 0; one < 8; one++) {
            for (int what = 0; what < 7; what++) {
                told.add(x.told(one, what));
            }
            told.add(x.fine(one));
        }
        for (int way = 0; way < 14; way++) {
            for (int what = 0; what < 4; what++) {
                told.add(x.about(way, what));
            }
            told.add(x.textTold(way, 0));
            told.add(x.textTold(way, 1));
        }
        for (int key = 0; key < 3; key++) {
            told.add(x.why(key));
        }
        told.add(x.fee());
        told.add(x.days(2));
        told.add(x.count(8));
    }

    private static void slotsAndSheets(TattooRoads x, List<Integer> told) {
        for (int slot = 0; slot < 5; slot++) {
            told.add(x.rest(slot, 1000));
            for (int kind = 0; kind < 6; kind++) {
                told.add(x.ask(slot, kind));
            }
            for (int place = 0; place < 6; place++) {
                told.add(x.item(slot, place));
            }
            told.add(x.lay(slot, 0, 0));
        }
        for (int sheet = 0; sheet < 4; sheet++) {
            told.add(x.mark(sheet, 0, NONE));
            told.add(x.lay(0, 2, sheet));
            for (int place = 0; place < 6; place++) {
                told.add(x.item(0, place));
            }
        }
    }

    private static void rowsAndImage(TattooRoads x, List<Integer> told) {
        for (int waits = x.count(6); waits >= 0 && x.count(6) > 0; waits--) {
            told.add(x.check(2));
        }
        told.add(x.text());
        told.add(x.fee());
        told.add(x.count(5));
        told.add(x.back());
        land(x, told);
    }

    private static void unchanged(String scene, Scene made, String name, int want, Call call) {
        due.is(scene + ": " + name, want, call.on(made.made()));
        List<Integer> without = all(made, x -> 0);
        List<Integer> behind = all(made, call);
        due.is(scene + ": " + name + " changes nothing: " + without + " " + behind, 1, behind.equals(without) ? 1 : 0);
    }

    // ---- refused

    private static void some(String name, int want, Call call) {
        unchanged("some", RefusalsTest::some, name, want, call);
    }

    private static void refusedInALandOfSome() {
        some("one, kind", BAD, x -> x.one(6, 0, 0));
        some("one, place", BAD, x -> x.one(0, 10, 0));
        some("one, age", BAD, x -> x.one(0, 0, 100));
        some("way, one and the same", BAD, x -> x.way(3, 3));
        some("way, from", BAD, x -> x.way(-1, 3));
        some("way, to", BAD, x -> x.way(3, 10));
        some("turns, one", BAD, x -> x.turns(3, 0));
        some("turns, kind", BAD, x -> x.turns(0, 6));
        some("set, one", BAD, x -> x.set(3, 1, 0));
        some("set, what", BAD, x -> x.set(0, 0, 5));
        some("set, place", BAD, x -> x.set(0, 1, 10));
        some("set, age", BAD, x -> x.set(0, 2, 100));
        some("ink, one", BAD, x -> x.ink(3, 0));
        some("ink, way", BAD, x -> x.ink(0, 3));
        some("ink, it has that", NO, x -> x.ink(2, 2));
        some("scar, one", BAD, x -> x.scar(3, 0));
        some("scar, way", BAD, x -> x.scar(0, 3));
        some("scar, it does not have that", NO, x -> x.scar(2, 0));
        some("slides", BAD, x -> x.slides(3));
        some("rule, what", BAD, x -> x.rule(2, 50));
        some("rule, v", BAD, x -> x.rule(0, 101));
        some("rule, v of slips", BAD, x -> x.rule(1, -1));
        some("deal 0", BAD, x -> x.deal(0));
        some("deal 9", BAD, x -> x.deal(9));
        some("days 0", BAD, x -> x.days(0));
        some("days 101", BAD, x -> x.days(101));
        some("trim -1", BAD, x -> x.trim(-1));
        some("trim, more than it has", BAD, x -> x.trim(9));
        some("sheet, sheet", BAD, x -> x.sheet(4, 0, 1));
        some("sheet, sort", BAD, x -> x.sheet(0, 2, 1));
        some("sheet, n", BAD, x -> x.sheet(0, 0, 25));
        some("sheet, n below 0", SIZE, x -> x.sheet(0, 1, -1));
        some("mark, sheet", BAD, x -> x.mark(4, 0, 1));
        some("mark, a missing sheet", NOTHING, x -> x.mark(3, 0, 1));
        some("mark, place", INDEX, x -> x.mark(0, 3, 1));
        some("mark, a sheet of no places", INDEX, x -> x.mark(2, 0, 1));
        some("mark, no number in shorts", KIND, x -> x.mark(0, 0, NONE));
        some("mark, v", BAD, x -> x.mark(1, 1, 100000));
        some("pour, sheet", BAD, x -> x.pour(4));
        some("pour, a missing sheet", NOTHING, x -> x.pour(3));
        some("copy, from", BAD, x -> x.copy(4, 0, 0, 0, 1));
        some("copy, to", BAD, x -> x.copy(0, 0, -1, 0, 1));
        some("copy, from a missing sheet", NOTHING, x -> x.copy(3, 0, 0, 0, 1));
        some("copy, to a missing sheet", NOTHING, x -> x.copy(0, 0, 3, 0, 1));
        some("copy, not of one sort", KIND, x -> x.copy(0, 0, 1, 0, 1));
        some("copy, place", INDEX, x -> x.copy(0, 2, 0, 0, 2));
        some("copy, at", INDEX, x -> x.copy(0, 0, 0, 2, 2));
        some("copy, many", INDEX, x -> x.copy(0, 2, 0, 0, -1));
        some("lay, slot", BAD, x -> x.lay(5, 3, 0));
        some("lay, thing", BAD, x -> x.lay(0, 4, 0));
        some("lay, one", BAD, x -> x.lay(0, 1, 3));
        some("lay, sheet", BAD, x -> x.lay(1, 2, 4));
        some("lay, a missing sheet", NOTHING, x -> x.lay(1, 2, 3));
        some("count", BAD, x -> x.count(9));
    }

    private static void full(String name, int want, Call call) {
        unchanged("full", RefusalsTest::full, name, want, call);
    }

    private static void refusedInAFullLand() {
        full("one", FULL, x -> x.one(0, 0, 0));
        full("one, BAD", BAD, x -> x.one(0, 0, 100));
        full("way", FULL, x -> x.way(0, 1));
        full("way, BAD", BAD, x -> x.way(0, 0));
        full("deal, nobody comes", 0, x -> x.deal(8));
        full("deal 0", BAD, x -> x.deal(0));
        full("feed", FULL, x -> x.feed(0x20202020, 0x66656520, 0x39393939));
        full("tell", FULL, x -> x.tell(99));
        full("ink, way", BAD, x -> x.ink(7, 14));
        full("scar, way", BAD, x -> x.scar(7, 14));
        full("ink, one", BAD, x -> x.ink(8, 0));
        full("slides", BAD, x -> x.slides(14));
        full("trim", BAD, x -> x.trim(97));
        full("lay", BAD, x -> x.lay(0, 1, 8));
    }

    private static void empty(String name, int want, Call call) {
        unchanged("empty", TattooRoads::new, name, want, call);
    }

    private static void refusedInAnEmptyLand() {
        empty("turns", BAD, x -> x.turns(0, 0));
        empty("set", BAD, x -> x.set(0, 1, 0));
        empty("ink", BAD, x -> x.ink(0, 0));
        empty("scar", BAD, x -> x.scar(0, 0));
        empty("slides", BAD, x -> x.slides(0));
        empty("back", NO, x -> x.back());
        empty("check", NO, x -> x.check(1));
        empty("trim", BAD, x -> x.trim(1));
        empty("text", -100, x -> x.text());
        empty("lay, one", BAD, x -> x.lay(0, 1, 0));
        empty("lay, sheet", NOTHING, x -> x.lay(0, 2, 0));
        empty("mark", NOTHING, x -> x.mark(0, 0, 0));
        empty("pour", NOTHING, x -> x.pour(0));
        empty("copy", NOTHING, x -> x.copy(0, 0, 1, 0, 0));
    }

    // ---- where it is told that something changes, it is that alone

    private static void theTapeAndTheNumbersThatWait() {
        alike("a fault uses up the tape alone", RefusalsTest::some, -107, x -> {
            x.trim(7);
            return x.text();
        }, x -> x.trim(0));
        alike("FULL uses up the tape alone", RefusalsTest::full, FULL, x -> {
            x.trim(8);
            return x.text();
        }, x -> x.trim(0));
        alike("BAD lets no number wait", RefusalsTest::some, BAD, x -> x.check(0), x -> x.check(1));
        alike("NO lets no number wait", RefusalsTest::threeNumbers, NO, x -> x.check(1), x -> x.check(0));
        due.is("three numbers waited", 3, threeNumbers().count(6));
        due.is("none of them does behind NO", 1, all(RefusalsTest::threeNumbers, x -> x.check(1)).equals(all(TattooRoads::new, x -> 0)) ? 1 : 0);
    }

    private static TattooRoads threeNumbers() {
        TattooRoads x = new TattooRoads();
        x.tell(1);
        x.tell(2);
        x.tell(3);
        return x;
    }

    private static void alike(String name, Scene scene, int want, Call one, Call other) {
        due.is(name, want, one.on(scene.made()));
        List<Integer> told = all(scene, one);
        List<Integer> toldOfTheOther = all(scene, other);
        due.is(name + ": " + told + " " + toldOfTheOther, 1, told.equals(toldOfTheOther) ? 1 : 0);
    }

    // ---- calls that only tell or think

    private static void callsThatOnlyTell() {
        List<Call> calls = List.of(
            x -> x.told(0, 4), x -> x.as(2, 1), x -> x.about(0, 3), x -> x.at(0), x -> x.land(3), x -> x.journey(7, 0, 3),
            x -> x.reach(0), x -> x.company(0, 1, 0), x -> x.regiment(0), x -> x.dear(0), x -> x.behind(100, 3),
            x -> x.arrives(0, 9), x -> x.inks(0, 60, 0), x -> x.becomes(0, 60, 0), x -> x.like(0, 0), x -> x.fee(),
            x -> x.fine(0), x -> x.textTold(0, 1), x -> x.why(0), x -> x.reads(0), x -> x.ask(0, 0), x -> x.item(1, 0),
            x -> x.rest(2, 5), x -> x.count(0),
            x -> x.told(HIGH, LOW), x -> x.as(LOW, 1), x -> x.about(LOW, 3), x -> x.at(LOW), x -> x.land(LOW),
            x -> x.journey(LOW, 0, 3), x -> x.reach(LOW), x -> x.company(0, LOW, 0), x -> x.regiment(LOW), x -> x.dear(LOW),
            x -> x.behind(HIGH, HIGH), x -> x.arrives(HIGH, 9), x -> x.inks(0, HIGH, 0), x -> x.becomes(0, HIGH, 0),
            x -> x.like(HIGH, 0), x -> x.fine(HIGH), x -> x.textTold(HIGH, 1), x -> x.why(HIGH), x -> x.reads(HIGH),
            x -> x.ask(0, HIGH), x -> x.item(1, HIGH), x -> x.rest(2, 0));
        Scene[] scenes = {RefusalsTest::some, RefusalsTest::full, TattooRoads::new};
        for (int s = 0; s < scenes.length; s++) {
            Scene scene = scenes[s];
            List<Integer> without = all(scene, x -> 0);
            for (int i = 0; i < calls.size(); i++) {
                due.is("scene " + s + ", call " + i + " changes nothing", 1, all(scene, calls.get(i)).equals(without) ? 1 : 0);
            }
        }
    }
}
