import java.util.Random;

/** Runs of drawn calls, the same ones on the program and on the second reading of the document. */
public final class RandomRunsTest {
    private static final int NONE = TattooRoads.NONE;
    private static final String[] NAMES = {"one", "way", "told", "as", "turns", "set", "ink", "scar", "about", "slides", "at",
        "rule", "deal", "seed", "days", "land", "journey", "reach", "company", "regiment", "dear", "behind", "arrives", "inks",
        "becomes", "like", "fee", "fine", "feed", "trim", "text", "textTold", "why", "sheet", "mark", "pour", "reads", "copy",
        "lay", "ask", "item", "rest", "tell", "check", "keep", "back", "count", "(a text)", "(days told)"};
    /** How often each of them is drawn, beside one another. */
    private static final int[] OFTEN = {4, 6, 5, 2, 2, 2, 12, 3, 3, 2, 2,
        3, 1, 1, 8, 6, 6, 4, 6, 3, 3, 4, 2, 2,
        2, 4, 2, 3, 1, 1, 1, 2, 2, 4, 8, 3, 4, 5,
        5, 4, 4, 3, 2, 2, 1, 1, 5, 6, 2};
    private static final int[] FAR = {Integer.MIN_VALUE, Integer.MAX_VALUE, -1, -2, 0, 1, 31, 32, 33, 64, 256, 65536, 1 << 30, -(1 << 30),
        NONE, TattooRoads.BAD, Integer.MIN_VALUE + 1, Integer.MAX_VALUE - 1};

    private final Random random;
    private final TattooRoads program = new TattooRoads();
    private final SecondReading reading = new SecondReading();
    private final StringBuilder calls = new StringBuilder();
    private final boolean far;
    private int made = 0;
    private int wrong = 0;

    private RandomRunsTest(long seed, boolean far) {
        random = new Random(seed);
        this.far = far;
    }

    public static void main(String[] args) {
        int runs = args.length > 0 ? Integer.parseInt(args[0]) : 400;
        int from = args.length > 1 ? Integer.parseInt(args[1]) : 0;
        int failed = 0;
        long answers = 0;
        for (int seed = from; seed < from + runs; seed++) {
            RandomRunsTest run = new RandomRunsTest(seed, seed % 4 == 3);
            run.calls();
            answers += run.made;
            if (run.wrong > 0 && ++failed <= 3) {
                System.out.println("seed " + seed + ":\n" + run.calls);
            }
        }
        System.out.println(runs + " runs, " + answers + " answers, " + failed + " runs not as due");
        if (failed > 0) {
            System.exit(1);
        }
    }

    private void calls() {
        if (random.nextInt(3) > 0) {
            settle();
        }
        if (random.nextInt(8) == 0) {
            comeNearTheLastDay();
        }
        while (made < 480 && wrong == 0) {
            call(drawnCall());
        }
    }

    /** Most runs begin with a land in which something can happen. */
    private void settle() {
        for (int i = random.nextInt(14); i >= 0; i--) {
            ask(1, random.nextInt(10), random.nextInt(10), 0, 0, 0);
        }
        ask(13, random.nextInt(), 0, 0, 0, 0);
        ask(12, 1 + random.nextInt(8), 0, 0, 0, 0);
        ask(11, 0, random.nextInt(101), 0, 0, 0);
        ask(11, 1, random.nextInt(101), 0, 0, 0);
    }

    private void comeNearTheLastDay() {
        for (int i = 0; i < 99; i++) {
            ask(14, 100, 0, 0, 0, 0);
        }
        ask(14, 50 + random.nextInt(50), 0, 0, 0, 0);
        ask(44, 0, 0, 0, 0, 0);
        for (int one = 0; one < reading.now.people.size(); one++) {
            ask(5, one, 2, random.nextInt(60), 0, 0);
        }
    }

    private int drawnCall() {
        int all = 0;
        for (int often : OFTEN) {
            all += often;
        }
        int drawn = random.nextInt(all);
        int call = 0;
        while (drawn >= OFTEN[call]) {
            drawn -= OFTEN[call];
            call++;
        }
        return call;
    }

    private void call(int call) {
        if (call == 47) {
            tellText(random.nextInt(6) == 0 ? spoilt(textOf()) : textOf());
        } else if (call == 48) {
            tellDays();
        } else {
            ask(call, argument(call, 0), argument(call, 1), argument(call, 2), argument(call, 3), argument(call, 4));
        }
    }

    private static final int[][] MOST = {
        {6, 10, 100}, {10, 10}, {8, 7}, {8, 6}, {8, 6}, {8, 3, 100}, {8, 14}, {8, 14}, {14, 4}, {14}, {10},
        {2, 101}, {9}, {1000000}, {101}, {6}, {256, 10, 10}, {8}, {10, 10, 2}, {2}, {2}, {101, 12}, {8, 10}, {8, 61, 2},
        {8, 61, 2}, {4, 2}, {}, {8}, {0, 0, 0}, {97}, {}, {14, 2}, {3}, {4, 2, 25}, {4, 24, 100}, {4}, {4}, {4, 24, 4, 24, 24},
        {5, 4, 8}, {5, 6}, {5, 24}, {5, 20}, {50}, {31}, {}, {}, {9}};

    private int argument(int call, int which) {
        if (which >= MOST[call].length) {
            return 0;
        }
        int most = MOST[call][which];
        int dice = random.nextInt(far ? 3 : 24);
        if (dice == 0) {
            return far ? FAR[random.nextInt(FAR.length)] : random.nextBoolean() ? -1 : most;
        }
        if (most == 0) {
            return random.nextInt();
        }
        int one = random.nextInt(most);
        switch (call) {
            case 0: case 2: case 3: case 4: case 5: case 6: case 7: case 17: case 22: case 23: case 24: case 27:
                return which == 0 && call > 0 && reading.now.people.size() > 0 ? one % reading.now.people.size() : one;
            case 16:
                return which == 0 ? one & (1 << reading.now.people.size()) - 1 : one;
            case 18:
                return which == 0 && reading.now.people.size() > 0 && dice > 6 ? reading.now.people.get(one % reading.now.people.size()).place : one;
            case 33:
                return which == 1 && random.nextInt(10) == 0 ? -1 : which == 1 ? one % 2 : one;
            case 34:
                return which == 2 ? markOf(one) : which == 1 ? one / 3 : one;
            case 37:
                return which % 2 == 0 && which < 4 ? one : one / 4;
            default:
                return one;
        }
    }

    private int markOf(int one) {
        switch (random.nextInt(8)) {
            case 0:
                return NONE;
            case 1:
                return random.nextInt(400000) - 200000;
            case 2:
                return one;
            default:
                return one % 10;
        }
    }

    // ---- texts

    private String textOf() {
        String[] keys = {"urge", "fee", "fine"};
        String[] names = {"wao", "ki", "sp"};
        int key = random.nextInt(3);
        StringBuilder text = new StringBuilder(random.nextInt(4) == 0 ? " " : "").append(keys[key]).append(' ');
        expression(text, names[key], random.nextInt(5));
        return text.length() > 96 ? text.substring(0, 96) : text.toString();
    }

    private void expression(StringBuilder text, String names, int depth) {
        int dice = random.nextInt(8);
        if (depth == 0 || dice == 0) {
            text.append(random.nextInt(3) == 0 ? String.valueOf(random.nextInt(random.nextBoolean() ? 12 : 10000))
                : String.valueOf(names.charAt(random.nextInt(names.length()))));
        } else if (dice == 1) {
            text.append('!');
            expression(text, names, depth - 1);
        } else if (dice < 4) {
            text.append('(');
            expression(text, names, depth - 1);
            text.append(')');
        } else {
            expression(text, names, depth - 1);
            text.append(random.nextInt(5) == 0 ? " " : "").append("|&<=>+-*/+-*/".charAt(random.nextInt(13)));
            text.append(random.nextInt(5) == 0 ? " " : "");
            expression(text, names, depth - 1);
        }
    }

    private String spoilt(String text) {
        StringBuilder spoilt = new StringBuilder(text);
        String signs = "urgefinwaokisp0123456789()!!((|&<=>+-*/ \0\u00ff;A";
        for (int i = random.nextInt(3); i >= 0; i--) {
            int place = random.nextInt(spoilt.length());
            char sign = signs.charAt(random.nextInt(signs.length()));
            switch (random.nextInt(4)) {
                case 0:
                    spoilt.deleteCharAt(place);
                    spoilt.append(' ');
                    break;
                case 1:
                    spoilt.insert(place, sign);
                    break;
                case 2:
                    spoilt.insert(place, String.valueOf(sign).repeat(random.nextInt(10)));
                    break;
                default:
                    spoilt.setCharAt(place, sign);
            }
        }
        return spoilt.length() > 96 ? spoilt.substring(0, 96) : spoilt.toString();
    }

    private void tellText(String text) {
        ask(29, 0, 0, 0, 0, 0);
        for (int at = 0; at < text.length(); at += 12) {
            ask(28, Tapes.four(text, at), Tapes.four(text, at + 4), Tapes.four(text, at + 8), 0, 0);
        }
        ask(29, text.length(), 0, 0, 0, 0);
        ask(30, 0, 0, 0, 0, 0);
    }

    /** Tells what is due for a check, or almost. */
    private void tellDays() {
        int n = 1 + random.nextInt(4);
        ask(43, n, 0, 0, 0, 0);
        if (reading.image == null) {
            return;
        }
        for (int i = 1; i <= n; i++) {
            SecondReading.World then = reading.image.behind(i);
            ask(42, then.walked + (random.nextInt(12) == 0 ? 1 : 0), 0, 0, 0, 0);
            if (random.nextInt(12) > 0) {
                ask(42, then.skins(then.people).size(), 0, 0, 0, 0);
            }
        }
        ask(43, random.nextInt(8) == 0 ? n + 1 : n, 0, 0, 0, 0);
    }

    // ---- both are asked

    private void ask(int call, int a, int b, int c, int d, int e) {
        int due = SecondReading.answered(() -> fromReading(call, a, b, c, d, e));
        int got = fromProgram(call, a, b, c, d, e);
        made++;
        calls.append(NAMES[call]).append('(').append(a).append(", ").append(b).append(", ").append(c).append(", ").append(d)
            .append(", ").append(e).append(") answered ").append(got);
        if (got != due) {
            wrong++;
            calls.append(", due is ").append(due);
        }
        calls.append('\n');
    }

    private int fromProgram(int call, int a, int b, int c, int d, int e) {
        TattooRoads x = program;
        switch (call) {
            case 0: return x.one(a, b, c);
            case 1: return x.way(a, b);
            case 2: return x.told(a, b);
            case 3: return x.as(a, b);
            case 4: return x.turns(a, b);
            case 5: return x.set(a, b, c);
            case 6: return x.ink(a, b);
            case 7: return x.scar(a, b);
            case 8: return x.about(a, b);
            case 9: return x.slides(a);
            case 10: return x.at(a);
            case 11: return x.rule(a, b);
            case 12: return x.deal(a);
            case 13: return x.seed(a);
            case 14: return x.days(a);
            case 15: return x.land(a);
            case 16: return x.journey(a, b, c);
            case 17: return x.reach(a);
            case 18: return x.company(a, b, c);
            case 19: return x.regiment(a);
            case 20: return x.dear(a);
            case 21: return x.behind(a, b);
            case 22: return x.arrives(a, b);
            case 23: return x.inks(a, b, c);
            case 24: return x.becomes(a, b, c);
            case 25: return x.like(a, b);
            case 26: return x.fee();
            case 27: return x.fine(a);
            case 28: return x.feed(a, b, c);
            case 29: return x.trim(a);
            case 30: return x.text();
            case 31: return x.textTold(a, b);
            case 32: return x.why(a);
            case 33: return x.sheet(a, b, c);
            case 34: return x.mark(a, b, c);
            case 35: return x.pour(a);
            case 36: return x.reads(a);
            case 37: return x.copy(a, b, c, d, e);
            case 38: return x.lay(a, b, c);
            case 39: return x.ask(a, b);
            case 40: return x.item(a, b);
            case 41: return x.rest(a, b);
            case 42: return x.tell(a);
            case 43: return x.check(a);
            case 44: return x.keep();
            case 45: return x.back();
            default: return x.count(a);
        }
    }

    private int fromReading(int call, int a, int b, int c, int d, int e) {
        SecondReading x = reading;
        switch (call) {
            case 0: return x.one(a, b, c);
            case 1: return x.way(a, b);
            case 2: return x.told(a, b);
            case 3: return x.as(a, b);
            case 4: return x.turns(a, b);
            case 5: return x.set(a, b, c);
            case 6: return x.ink(a, b);
            case 7: return x.scar(a, b);
            case 8: return x.about(a, b);
            case 9: return x.slides(a);
            case 10: return x.at(a);
            case 11: return x.rule(a, b);
            case 12: return x.deal(a);
            case 13: return x.seed(a);
            case 14: return x.days(a);
            case 15: return x.land(a);
            case 16: return x.journey(a, b, c);
            case 17: return x.reach(a);
            case 18: return x.company(a, b, c);
            case 19: return x.regiment(a);
            case 20: return x.dear(a);
            case 21: return x.behind(a, b);
            case 22: return x.arrives(a, b);
            case 23: return x.inks(a, b, c);
            case 24: return x.becomes(a, b, c);
            case 25: return x.like(a, b);
            case 26: return x.fee();
            case 27: return x.fine(a);
            case 28: return x.feed(a, b, c);
            case 29: return x.trim(a);
            case 30: return x.text();
            case 31: return x.textTold(a, b);
            case 32: return x.why(a);
            case 33: return x.sheet(a, b, c);
            case 34: return x.mark(a, b, c);
            case 35: return x.pour(a);
            case 36: return x.reads(a);
            case 37: return x.copy(a, b, c, d, e);
            case 38: return x.lay(a, b, c);
            case 39: return x.ask(a, b);
            case 40: return x.item(a, b);
            case 41: return x.rest(a, b);
            case 42: return x.tell(a);
            case 43: return x.check(a);
            case 44: return x.keep();
            case 45: return x.back();
            default: return x.count(a);
        }
    }
}
