/** Promises 44 to 48: rows, images. */
public final class RowsImagesTest {
    private static final int BAD = TattooRoads.BAD, NO = TattooRoads.NO, FULL = TattooRoads.FULL, NONE = TattooRoads.NONE;
    private static final int ONE = 0, ELDER = 3;
    private static final int LOW = Integer.MIN_VALUE, HIGH = Integer.MAX_VALUE;
    private static final Due due = new Due();

    public static void main(String[] args) {
        telling();
        checksThatAreRefused();
        checkingDays();
        checkingTheFirstThatIsNot();
        checkingByTheImage();
        checkingNearTheLastDay();
        keepingAndGoingBack();
        goingBackAgainAndAgain();
        whatAnImageDoesNotKeep();
        textsOfAnImage();
        counts();
        due.end();
    }

    private static void telling() {
        TattooRoads x = new TattooRoads();
        for (int i = 1; i <= 60; i++) {
            due.is("tell " + i, i, x.tell(-i));
        }
        due.is("a 61st", FULL, x.tell(0));
        due.is("sixty wait", 60, x.count(6));
    }

    private static void checksThatAreRefused() {
        TattooRoads x = new TattooRoads();
        int[] wrong = {0, -1, 31, LOW, HIGH};
        for (int n : wrong) {
            x.tell(1);
            due.is("check " + n + " without an image", BAD, x.check(n));
            due.is("none waits then", 0, x.count(6));
        }
        x.tell(1);
        due.is("no image", NO, x.check(1));
        due.is("none waits behind NO", 0, x.count(6));
        x.keep();
        x.tell(1);
        due.is("check 31", BAD, x.check(31));
        due.is("none waits behind BAD", 0, x.count(6));
    }

    /** One who walks to and fro each day and is 8 years old: a WAY fades behind two days. */
    private static TattooRoads walker() {
        TattooRoads x = new TattooRoads();
        x.rule(0, 100);
        x.rule(1, 0);
        x.way(0, 1);
        x.one(ONE, 0, 8);
        x.ink(0, 0);
        return x;
    }

    private static void tellAll(TattooRoads x, int... numbers) {
        for (int v : numbers) {
            x.tell(v);
        }
    }

    private static void checkingDays() {
        TattooRoads x = walker();
        x.keep();
        tellAll(x, 1, 1);
        due.is("a day", 0, x.check(1));
        tellAll(x, 1, 1, 2, 0, 2, 0);
        due.is("three days", 0, x.check(3));
        due.is("nothing changed", 0, x.count(1));
        due.is("z is as it was", 1, x.count(8));
        x.days(2);
        x.keep();
        tellAll(x, 2, 0);
        due.is("WALKED is all that was", 0, x.check(1));
        for (int i = 0; i < 30; i++) {
            tellAll(x, 2, 0);
        }
        due.is("thirty days", 0, x.check(30));
    }

    private static void checkingTheFirstThatIsNot() {
        TattooRoads x = walker();
        x.keep();
        due.is("all are missing", 1, x.check(2));
        tellAll(x, 1);
        due.is("the second is missing", 2, x.check(2));
        tellAll(x, 1, 1, 2);
        due.is("the last is missing", 4, x.check(2));
        tellAll(x, 0, 1, 2, 0);
        due.is("the first is not", 1, x.check(2));
        tellAll(x, 1, 0, 2, 0);
        due.is("the second is not", 2, x.check(2));
        tellAll(x, 1, 1, 1, 0);
        due.is("the third is not", 3, x.check(2));
        tellAll(x, 1, 1, 2, 1);
        due.is("the fourth is not", 4, x.check(2));
        tellAll(x, 1, 1, 2, 0, 2);
        due.is("one too many", 5, x.check(2));
        tellAll(x, 1, 1, 2, 0, 2, 0, 2, 0);
        due.is("more too many", 5, x.check(2));
        tellAll(x, 1, 0, 2, 0, 2);
        due.is("wrong and one too many", 2, x.check(2));
        tellAll(x, 1, 1, 2, 0);
        due.is("none of these waits any more", 0, x.check(2));
        due.is("nor now: all are missing", 1, x.check(2));
        tellAll(x, 1);
        due.is("nor behind one that was told", 2, x.check(2));
        tellAll(x, 1, 1);
        due.is("nor behind two", 3, x.check(2));
    }

    private static void checkingByTheImage() {
        TattooRoads x = walker();
        x.keep();
        x.days(30);
        x.seed(99);
        x.slides(0);
        x.rule(0, 0);
        x.one(ONE, 5, 5);
        Tapes.tell(x, "urge 0");
        tellAll(x, 1, 1, 2, 0);
        due.is("by the image, whatever is now", 0, x.check(2));
        due.is("now stays", 2, x.count(0));
        x = walker();
        Tapes.tell(x, "urge 0");
        x.keep();
        Tapes.tell(x, "urge 100");
        tellAll(x, 0, 1, 0, 0);
        due.is("by the image's texts", 0, x.check(2));
    }

    private static void checkingNearTheLastDay() {
        TattooRoads x = walker();
        for (int i = 0; i < 99; i++) {
            x.days(100);
        }
        x.days(98);
        due.is("the day", 9998, x.count(1));
        int walked = x.land(0);
        x.keep();
        tellAll(x, walked, 0);
        due.is("one day is left", 0, x.check(30));
        tellAll(x, walked, 0, walked);
        due.is("one too many", 3, x.check(30));
        x.days(1);
        x.keep();
        due.is("no day is left", 0, x.check(5));
        tellAll(x, walked);
        due.is("one too many then", 1, x.check(5));
    }

    private static String all(TattooRoads x) {
        StringBuilder told = new StringBuilder();
        for (int what : new int[] {0, 1, 2, 3, 4, 5, 8}) {
            told.append(x.count(what)).append(' ');
        }
        for (int what = 0; what < 6; what++) {
            told.append(x.land(what)).append(' ');
        }
        for (int one = 0; one < x.count(0); one++) {
            for (int what = 0; what < 7; what++) {
                told.append(x.told(one, what)).append(' ');
            }
        }
        for (int way = 0; way < x.count(2); way++) {
            for (int what = 0; what < 3; what++) {
                told.append(x.about(way, what)).append(' ');
            }
        }
        for (int key = 0; key < 3; key++) {
            told.append(x.why(key)).append(' ');
        }
        return told.toString();
    }

    private static TattooRoads crowd() {
        TattooRoads x = new TattooRoads();
        for (int i = 0; i < 8; i++) {
            x.way(i, i + 2);
        }
        x.deal(5);
        x.rule(0, 80);
        x.rule(1, 20);
        Tapes.tell(x, "urge w + a");
        x.days(7);
        return x;
    }

    private static void changeAll(TattooRoads x) {
        x.deal(3);
        x.way(0, 9);
        x.way(8, 3);
        x.turns(0, ELDER);
        x.set(1, 1, 7);
        x.set(2, 2, 77);
        x.rule(0, 1);
        x.rule(1, 2);
        x.seed(3);
        x.slides(0);
        Tapes.tell(x, "urge 100");
        Tapes.tell(x, "fee 100");
        Tapes.tell(x, "fine 100");
        x.days(20);
    }

    private static void keepingAndGoingBack() {
        TattooRoads x = crowd();
        due.is("back without an image", NO, x.back());
        due.is("keep", 5, x.keep());
        String kept = all(x);
        changeAll(x);
        due.is("all is otherwise", 0, all(x).equals(kept) ? 1 : 0);
        due.is("back", 5, x.back());
        due.is("all is as it was", 1, all(x).equals(kept) ? 1 : 0);
        TattooRoads y = crowd();
        due.is("and goes on alike", y.days(60), x.days(60));
        due.is("to the last", 1, all(x).equals(all(y)) ? 1 : 0);
        TattooRoads z = new TattooRoads();
        due.is("keep nobody", 0, z.keep());
        z.deal(8);
        due.is("back to nobody", 0, z.back());
        due.is("nobody", 0, z.count(0));
        due.is("the first again", 0, z.one(ONE, 0, 0));
    }

    private static void goingBackAgainAndAgain() {
        TattooRoads x = crowd();
        x.keep();
        String kept = all(x);
        for (int i = 0; i < 3; i++) {
            x.days(10);
            x.ink(0, 1);
            x.scar(0, 0);
            x.back();
            due.is("back " + i, 1, all(x).equals(kept) ? 1 : 0);
        }
        x.one(ONE, 1, 1);
        due.is("another image", 6, x.keep());
        x.one(ONE, 1, 1);
        due.is("back to that", 6, x.back());
        x.way(3, 4);
        x.back();
        due.is("a way that was added touches no more", 0, x.reach(5) & ~(1 << x.told(5, 1)));
    }

    private static void whatAnImageDoesNotKeep() {
        TattooRoads x = new TattooRoads();
        x.keep();
        x.sheet(0, 0, 3);
        x.mark(0, 0, 8);
        x.lay(0, 3, 5);
        x.tell(1);
        x.feed(0, 0, 0);
        x.back();
        x.lay(1, 2, 0);
        due.is("a sheet stays", 8, x.item(1, 0));
        due.is("a slot stays", 5, x.rest(0, 9));
        due.is("a number waits", 1, x.count(6));
        due.is("the tape stays", 12, x.count(7));
    }

    private static void textsOfAnImage() {
        TattooRoads x = new TattooRoads();
        Tapes.tell(x, "fee 1");
        x.keep();
        Tapes.tell(x, "fee 2");
        Tapes.tell(x, "fine 3");
        x.back();
        due.is("one text", 1, x.count(5));
        due.is("it counts", 0, x.why(1));
        due.is("its value", 1, x.fee());
        due.is("none for fine", NONE, x.why(2));
        due.is("told no more", BAD, x.textTold(1, 0));
        due.is("the next has its number", 1, Tapes.tell(x, "fee 4"));
        due.is("and its value", 4, x.fee());
        x.back();
        due.is("the first again", 1, x.fee());
        for (int i = 1; i < 14; i++) {
            due.is("room for thirteen " + i, i, Tapes.tell(x, "fee 5"));
        }
    }

    private static void counts() {
        TattooRoads x = new TattooRoads();
        due.is("count -1", BAD, x.count(-1));
        due.is("count 9", BAD, x.count(9));
        due.is("count lowest", BAD, x.count(LOW));
        x.one(ONE, 0, 0);
        x.one(ONE, 0, 0);
        x.days(3);
        x.way(0, 1);
        x.rule(0, 21);
        x.rule(1, 22);
        Tapes.tell(x, "fee 1");
        Tapes.tell(x, "fee 1");
        Tapes.tell(x, "fee 1");
        Tapes.tell(x, "fee 1");
        tellAll(x, 5, 5, 5, 5, 5);
        x.feed(0, 0, 0);
        x.trim(6);
        x.seed(-8);
        int[] want = {2, 3, 1, 21, 22, 4, 5, 6, -8};
        for (int what = 0; what < 9; what++) {
            due.is("count " + what, want[what], x.count(what));
        }
    }
}
