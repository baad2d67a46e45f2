/** Promises 23 to 29: what will be; told beside objects that live the days. */
public final class WhatWillBeTest {
    private static final int BAD = TattooRoads.BAD, NONE = TattooRoads.NONE, NOTHING = TattooRoads.NOTHING;
    private static final int ONE = 0, CHILD = 2, ELDER = 3;
    private static final int LOW = Integer.MIN_VALUE, HIGH = Integer.MAX_VALUE;
    private static final Due due = new Due();

    public static void main(String[] args) {
        behindIsAsLived();
        behindIsRefused();
        arriving();
        arrivingLate();
        whatToInk();
        whatToInkByHand();
        whatToBecome();
        whatToBecomeByHand();
        thoughtChangesNothing();
        whoIsLike();
        likeByNumbersAlone();
        feeAndFine();
        due.end();
    }

    /** A land of eight people and ways between all of the first places, with z drawn from a seed. */
    private static TattooRoads crowd(int seed) {
        TattooRoads x = new TattooRoads();
        for (int i = 0; i < 12; i++) {
            x.way(i % 10, (i * 7 + 3) % 10 == i % 10 ? (i + 1) % 10 : (i * 7 + 3) % 10);
        }
        x.seed(seed);
        x.rule(0, 90);
        x.deal(8);
        return x;
    }

    private static void behindIsAsLived() {
        for (int seed = 1; seed <= 5; seed++) {
            TattooRoads x = crowd(seed);
            x.days(3);
            for (int n = 0; n <= 100; n += n < 4 ? 1 : 16) {
                TattooRoads y = crowd(seed);
                y.days(3);
                if (n > 0) {
                    y.days(n);
                }
                for (int what = 0; what < 4; what++) {
                    due.is("behind " + n + " " + what, y.land(what), x.behind(n, what));
                }
                for (int one = 0; one < 8; one++) {
                    due.is("behind " + n + " place of " + one, y.told(one, 1), x.behind(n, 4 + one));
                }
            }
            due.is("the day", 3, x.count(1));
        }
    }

    private static void behindIsRefused() {
        TattooRoads x = new TattooRoads();
        x.one(ONE, 5, 0);
        due.is("behind 100 days", 5, x.behind(100, 4));
        int[][] wrong = {{-1, 0}, {101, 0}, {0, -1}, {0, 5}, {0, 12}, {LOW, 0}, {HIGH, 0}, {0, LOW}, {0, HIGH}};
        for (int[] w : wrong) {
            due.is("behind wrong " + w[0] + " " + w[1], BAD, x.behind(w[0], w[1]));
        }
        due.is("nobody", BAD, new TattooRoads().behind(0, 4));
    }

    private static void arriving() {
        for (int seed = 1; seed <= 5; seed++) {
            TattooRoads x = crowd(seed);
            TattooRoads y = crowd(seed);
            int[][] first = new int[8][10];
            for (int[] row : first) {
                java.util.Arrays.fill(row, NONE);
            }
            for (int n = 0; n <= 200; n++) {
                for (int one = 0; one < 8; one++) {
                    int place = y.told(one, 1);
                    first[one][place] = first[one][place] == NONE ? n : first[one][place];
                }
                y = n % 40 == 39 ? livedOn(seed, n + 1) : oneDayOn(y);
            }
            for (int one = 0; one < 8; one++) {
                for (int place = 0; place < 10; place++) {
                    due.is("arrives " + one + " " + place, first[one][place], x.arrives(one, place));
                }
            }
        }
        TattooRoads x = crowd(1);
        int[][] wrong = {{-1, 0}, {8, 0}, {0, -1}, {0, 10}, {LOW, HIGH}};
        for (int[] w : wrong) {
            due.is("arrives wrong " + w[0] + " " + w[1], BAD, x.arrives(w[0], w[1]));
        }
    }

    /** An object bears 512 calls: a long life is lived by several. */
    private static TattooRoads livedOn(int seed, int n) {
        TattooRoads y = crowd(seed);
        for (int left = n; left > 0; left -= 100) {
            y.days(Math.min(left, 100));
        }
        return y;
    }

    private static TattooRoads oneDayOn(TattooRoads y) {
        y.days(1);
        return y;
    }

    private static void arrivingLate() {
        TattooRoads x = new TattooRoads();
        x.rule(0, 100);
        x.rule(1, 0);
        x.one(ONE, 0, 99);
        x.way(0, 1);
        due.is("never", NONE, x.arrives(0, 1));
        x.ink(0, 0);
        due.is("there", 0, x.arrives(0, 0));
        due.is("a day", 1, x.arrives(0, 1));
        int found = 0;
        for (int seed = 0; seed < 5000; seed++) {
            found |= lateBySeed(seed);
        }
        due.is("some came on day 200, some on day 201", 3, found);
    }

    /** With one chance in a hundred a day: bit 0 if the first walk is on day 200, bit 1 if on day 201. */
    private static int lateBySeed(int seed) {
        TattooRoads x = new TattooRoads();
        x.rule(0, 1);
        x.rule(1, 0);
        x.one(ONE, 0, 99);
        x.way(0, 1);
        x.ink(0, 0);
        x.seed(seed);
        int z = seed;
        int first = 0;
        for (int day = 1; day <= 201 && first == 0; day++) {
            Draws draws = new Draws(z);
            if (draws.next() % 100 < 1) {
                first = day;
            }
            draws.next();
            z = draws.z;
        }
        if (first < 200) {
            return 0;
        }
        due.is("arrives on day " + first, first == 200 ? first : NONE, x.arrives(0, 1));
        return first - 199;
    }

    private static void whatToInk() {
        for (int seed = 1; seed <= 6; seed++) {
            for (int n = 1; n <= 60; n = n * 3 + 1) {
                int one = seed % 8;
                int best = 0;
                int most = -1;
                for (int way = 0; way < 12; way++) {
                    TattooRoads y = crowd(seed);
                    y.ink(one, way);
                    int walked = y.days(n);
                    if (walked > most) {
                        best = way;
                        most = walked;
                    }
                }
                TattooRoads x = crowd(seed);
                due.is("inks the way, seed " + seed + " n " + n, best, x.inks(one, n, 0));
                due.is("inks, walked, seed " + seed + " n " + n, most, x.inks(one, n, 1));
            }
        }
    }

    private static void whatToInkByHand() {
        TattooRoads x = new TattooRoads();
        x.rule(0, 100);
        x.rule(1, 0);
        x.one(ONE, 3, 20);
        due.is("no ways", NONE, x.inks(0, 1, 0));
        due.is("no ways, walked", NONE, x.inks(0, 1, 1));
        due.is("BAD ahead of NONE", BAD, x.inks(0, 1, 2));
        x.way(0, 1);
        due.is("of several the least", 0, x.inks(0, 5, 0));
        due.is("none is walked", 0, x.inks(0, 5, 1));
        x.ink(0, 0);
        x.set(0, 1, 0);
        due.is("one that it has", 0, x.inks(0, 5, 0));
        due.is("WALKED", 5, x.inks(0, 5, 1));
        x.days(2);
        due.is("WALKED is all that was", 7, x.inks(0, 5, 1));
        int[][] wrong = {{-1, 1, 0}, {1, 1, 0}, {0, 0, 0}, {0, 61, 0}, {0, 1, -1}, {0, 1, 2}, {0, LOW, 0}, {0, HIGH, 0}};
        for (int[] w : wrong) {
            due.is("inks wrong " + w[0] + " " + w[1] + " " + w[2], BAD, x.inks(w[0], w[1], w[2]));
        }
        due.is("sixty days", 0, x.inks(0, 60, 0));
        due.is("its skin is as it was", 1, x.told(0, 3));
    }

    private static void whatToBecome() {
        for (int seed = 1; seed <= 6; seed++) {
            for (int n = 1; n <= 60; n = n * 3 + 1) {
                int one = seed % 8;
                int best = 0;
                int most = -1;
                for (int kind = 0; kind < 6; kind++) {
                    TattooRoads y = crowd(seed);
                    y.turns(one, kind);
                    y.days(n);
                    if (y.land(3) > most) {
                        best = kind;
                        most = y.land(3);
                    }
                }
                TattooRoads x = crowd(seed);
                due.is("becomes, seed " + seed + " n " + n, best, x.becomes(one, n, 0));
                due.is("becomes, ways, seed " + seed + " n " + n, most, x.becomes(one, n, 1));
            }
        }
    }

    private static void whatToBecomeByHand() {
        TattooRoads x = new TattooRoads();
        x.rule(0, 0);
        x.rule(1, 0);
        x.one(ELDER, 0, 9);
        due.is("without ways, the least", ONE, x.becomes(0, 1, 0));
        due.is("without ways, none", 0, x.becomes(0, 1, 1));
        for (int way = 0; way < 3; way++) {
            x.way(0, 1);
            x.ink(0, way);
        }
        due.is("a guide does not lose", 1, x.becomes(0, 1, 0));
        due.is("three ways", 3, x.becomes(0, 60, 1));
        int[][] wrong = {{-1, 1, 0}, {1, 1, 0}, {0, 0, 0}, {0, 61, 0}, {0, 1, -1}, {0, 1, 2}, {0, LOW, 0}, {0, HIGH, 0}};
        for (int[] w : wrong) {
            due.is("becomes wrong " + w[0] + " " + w[1] + " " + w[2], BAD, x.becomes(w[0], w[1], w[2]));
        }
        due.is("it is what it was", ELDER, x.told(0, 0));
        due.is("its skin is as it was", 7, x.told(0, 3));
    }

    private static void thoughtChangesNothing() {
        TattooRoads x = crowd(9);
        TattooRoads y = crowd(9);
        x.sheet(0, 0, 24);
        x.behind(100, 0);
        x.arrives(0, 9);
        x.inks(0, 60, 0);
        x.becomes(0, 60, 0);
        x.like(0, 0);
        for (int what = 0; what < 9; what++) {
            due.is("count " + what, y.count(what), x.count(what));
        }
        for (int one = 0; one < 8; one++) {
            for (int what = 0; what < 7; what++) {
                due.is("told " + one + " " + what, y.told(one, what), x.told(one, what));
            }
        }
        for (int what = 0; what < 6; what++) {
            due.is("land " + what, y.land(what), x.land(what));
        }
        due.is("and goes on alike", y.days(50), x.days(50));
        due.is("z", y.count(8), x.count(8));
    }

    private static void whoIsLike() {
        for (int seed = 1; seed <= 5; seed++) {
            for (int one = 0; one < 8; one++) {
                TattooRoads x = crowd(seed);
                x.sheet(1, seed % 2, 24);
                int[] alike = new int[8];
                TattooRoads y = crowd(seed);
                for (int k = 0; k < 24; k++) {
                    int place = k % 5 == 4 ? 9 : y.told(one, 1);
                    x.mark(1, k, place);
                    for (int i = 0; i < 8; i++) {
                        alike[i] += y.told(i, 1) == place ? 1 : 0;
                    }
                    y.days(1);
                }
                int best = 0;
                for (int i = 1; i < 8; i++) {
                    best = alike[i] > alike[best] ? i : best;
                }
                due.is("like, seed " + seed + " one " + one, best, x.like(1, 0));
                due.is("like, places, seed " + seed + " one " + one, alike[best], x.like(1, 1));
            }
        }
    }

    private static void likeByNumbersAlone() {
        TattooRoads x = new TattooRoads();
        due.is("no such sheet", BAD, x.like(-1, 0));
        due.is("no such sheet 4", BAD, x.like(4, 0));
        due.is("BAD ahead of NOTHING", BAD, x.like(0, 2));
        due.is("what -1", BAD, x.like(0, -1));
        due.is("NOTHING ahead of NONE", NOTHING, x.like(0, 0));
        x.sheet(0, 1, 3);
        due.is("nobody", NONE, x.like(0, 0));
        due.is("nobody, how many", NONE, x.like(0, 1));
        x.one(ONE, 5, 0);
        x.one(ONE, 0, 0);
        due.is("place 0", 1, x.like(0, 0));
        due.is("three places", 3, x.like(0, 1));
        x.mark(0, 0, NONE);
        x.mark(0, 2, NONE);
        due.is("one place is a number", 1, x.like(0, 1));
        x.mark(0, 1, 5);
        due.is("the other one", 0, x.like(0, 0));
        x.mark(0, 1, NONE);
        due.is("none is a number: the least", 0, x.like(0, 0));
        due.is("none", 0, x.like(0, 1));
        x.sheet(0, 0, 0);
        due.is("no places: the least", 0, x.like(0, 0));
        due.is("no places", 0, x.like(0, 1));
    }

    private static void feeAndFine() {
        TattooRoads x = new TattooRoads();
        x.rule(0, 100);
        x.rule(1, 0);
        x.one(ONE, 0, 0);
        x.one(CHILD, 4, 0);
        x.way(0, 1);
        x.way(3, 2);
        x.ink(0, 0);
        x.ink(1, 1);
        x.ink(1, 0);
        x.turns(0, ELDER);
        due.is("an elder does not read way 0", 0, x.days(5));
        x.turns(0, ONE);
        int walked = x.days(20);
        due.is("fee without a text is WALKED", walked, x.fee());
        due.is("somebody walked", 1, walked > 0 ? 1 : 0);
        due.is("fine without a text", Integer.bitCount(x.told(0, 3)), x.fine(0));
        x.ink(1, 0);
        x.ink(1, 1);
        due.is("fine of two ways", 2, x.fine(1));
        due.is("fine of nobody", BAD, x.fine(2));
        due.is("fine of -1", BAD, x.fine(-1));
        due.is("fine of the highest", BAD, x.fine(HIGH));
        Tapes.tell(x, "fee 1000 * k + i");
        due.is("fee by a text", 1000 * walked + x.land(1), x.fee());
        Tapes.tell(x, "fine s * 10 + p");
        due.is("fine by a text", 24, x.fine(1));
        due.is("fine by a text, nobody", BAD, x.fine(2));
    }
}
