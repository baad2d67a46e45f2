/** Promises 28 to 34, and urge: texts. */
public final class TextsTest {
    private static final int BAD = TattooRoads.BAD, FULL = TattooRoads.FULL, NONE = TattooRoads.NONE;
    private static final int LOW = Integer.MIN_VALUE, HIGH = Integer.MAX_VALUE;
    private static final Due due = new Due();

    public static void main(String[] args) {
        feedingBytes();
        trimming();
        bytesAreFedHighestFirst();
        textsAreNumbered();
        whatSignsGive();
        whatBindsCloser();
        intsWrap();
        urgeCounts();
        namesByKey();
        faults();
        faultsByDepth();
        faultsByBytes();
        faultStandsAheadOfFull();
        textsAreTold();
        theLastTextCounts();
        due.end();
    }

    private static void feedingBytes() {
        TattooRoads x = new TattooRoads();
        for (int i = 1; i <= 8; i++) {
            due.is("feed " + i, 12 * i, x.feed(i, -i, 0));
        }
        due.is("a ninth", FULL, x.feed(0, 0, 0));
        due.is("nothing came", 96, x.count(7));
        x.trim(85);
        due.is("eleven are free", FULL, x.feed(0, 0, 0));
        x.trim(84);
        due.is("twelve are free", 96, x.feed(0, 0, 0));
    }

    private static void trimming() {
        TattooRoads x = new TattooRoads();
        due.is("an empty tape", 0, x.trim(0));
        due.is("it has not one", BAD, x.trim(1));
        x.feed(0, 0, 0);
        due.is("trim 13", BAD, x.trim(13));
        due.is("trim -1", BAD, x.trim(-1));
        due.is("trim lowest", BAD, x.trim(LOW));
        due.is("trim highest", BAD, x.trim(HIGH));
        due.is("nothing changed", 12, x.count(7));
        due.is("trim 12", 12, x.trim(12));
        due.is("trim 5", 5, x.trim(5));
        due.is("five", 5, x.count(7));
        due.is("feed behind them", 17, x.feed(0, 0, 0));
    }

    private static void bytesAreFedHighestFirst() {
        TattooRoads x = new TattooRoads();
        x.feed('f' << 24 | 'e' << 16 | 'e' << 8 | ' ', '1' << 24 | '2' << 16 | '*' << 8 | '1', '0' << 24 | '0' << 16 | '+' << 8 | 'k');
        due.is("a text", 0, x.text());
        due.is("its value", 1200, x.fee());
        x.feed('f' << 24 | 'e' << 16 | 'e' << 8 | 200, -1, -1);
        due.is("a byte above 127", -103, x.text());
    }

    private static void textsAreNumbered() {
        TattooRoads x = new TattooRoads();
        due.is("an empty tape", -100, x.text());
        due.is("none was told", 0, x.count(5));
        due.is("the first", 0, Tapes.tell(x, "urge 1"));
        due.is("the tape is used up", 0, x.count(7));
        due.is("used up by a fault", -104, Tapes.tell(x, "fee w"));
        due.is("it is empty", 0, x.count(7));
        for (int i = 1; i < 14; i++) {
            due.is("text " + i, i, Tapes.tell(x, "fine s"));
        }
        due.is("a fifteenth", FULL, Tapes.tell(x, "fee 7"));
        due.is("the tape is used up by FULL", 0, x.count(7));
        due.is("fourteen", 14, x.count(5));
        due.is("the last does not count", NONE, x.why(1));
        due.is("fee without a text", 0, x.fee());
    }

    private static int feeOf(String expression) {
        TattooRoads x = new TattooRoads();
        due.is("told: " + expression, 0, Tapes.tell(x, "fee " + expression));
        return x.fee();
    }

    private static void whatSignsGive() {
        String[] expressions = {"7", "0007", "9999", "3+4", "3-4", "3*4", "7/2", "(0-7)/2", "7/(0-2)", "7/0", "0/0",
            "2<3", "3<3", "2=2", "2=3", "3>2", "2>2", "!0", "!1", "!7", "!!7", "5|0", "0|0", "0|(0-1)", "5&7", "5&0", "0&0",
            "(5)", "((5))", "!(2<3)", "! ! ! 0"};
        int[] values = {7, 7, 9999, 7, -1, 12, 3, -3, -3, 0, 0,
            1, 0, 1, 0, 1, 0, 1, 0, 0, 1, 1, 0, 1, 1, 0, 0,
            5, 5, 0, 1};
        for (int i = 0; i < values.length; i++) {
            due.is(expressions[i], values[i], feeOf(expressions[i]));
        }
    }

    private static void whatBindsCloser() {
        String[] expressions = {"2+3*4", "2*3+4", "(2+3)*4", "9-3-2", "9-(3-2)", "100/5/2", "100/(5/2)", "2*7/3", "2*(7/3)",
            "1+1<3", "1<1+1", "3=1+2", "1|0&0", "(1|0)&0", "0&1|1", "1<2&2<3", "1&2=2", "!1+5", "!(1+5)", "!0*5", "2<3|9",
            "1=1=0|7"};
        int[] values = {14, 10, 20, 4, 8, 10, 50, 4, 4,
            1, 1, 1, 1, 0, 1, 1, 1, 5, 0, 5, 1,
            0};
        for (int i = 0; i < values.length - 1; i++) {
            due.is(expressions[i], values[i], feeOf(expressions[i]));
        }
        due.is("one test alone", -107, Tapes.tell(new TattooRoads(), "fee " + expressions[values.length - 1]));
    }

    private static void intsWrap() {
        due.is("wraps by *", 9999 * 9999 * 9999, feeOf("9999*9999*9999"));
        due.is("wraps by +", HIGH + 1, feeOf("8*8*8*8*8*8*8*8*8*8*2 - 1 + 1"));
        due.is("the lowest by -1", LOW, feeOf("8*8*8*8*8*8*8*8*8*8*2/(0-1)"));
        due.is("the lowest less 1", HIGH, feeOf("8*8*8*8*8*8*8*8*8*8*2-1"));
    }

    private static void urgeCounts() {
        TattooRoads x = new TattooRoads();
        x.one(0, 7, 42);
        x.rule(0, 31);
        due.is("without a text", 31, x.told(0, 5));
        Tapes.tell(x, "urge w");
        due.is("wanders", 31, x.told(0, 5));
        Tapes.tell(x, "urge a");
        due.is("age", 42, x.told(0, 5));
        Tapes.tell(x, "urge o");
        due.is("place", 7, x.told(0, 5));
        Tapes.tell(x, "urge 101");
        due.is("held within 100", 100, x.told(0, 5));
        Tapes.tell(x, "urge 0-1");
        due.is("held within 0", 0, x.told(0, 5));
        Tapes.tell(x, "urge (o=7)*100");
        x.rule(0, 0);
        x.rule(1, 0);
        x.one(0, 6, 0);
        x.way(7, 8);
        x.way(8, 7);
        x.ink(0, 0);
        x.ink(0, 1);
        due.is("it goes by its urge", 1, x.days(5));
        due.is("and stays where it has none", 8, x.told(0, 1));
        Tapes.tell(x, "urge a*2");
        x.set(0, 2, 50);
        due.is("thought goes by urge too", 2, x.behind(1, 0));
    }

    private static void namesByKey() {
        String[] keys = {"urge", "fee", "fine"};
        String[] names = {"wao", "ki", "sp"};
        for (int key = 0; key < 3; key++) {
            for (char name = 'a'; name <= 'z'; name++) {
                int want = names[key].indexOf(name) >= 0 ? 0 : -100 - keys[key].length() - 1;
                due.is(keys[key] + " " + name, want, Tapes.tell(new TattooRoads(), keys[key] + " " + name));
            }
        }
    }

    private static void faults() {
        String[] tapes = {"", " ", "   urge", "urge", "urge ", "fee ", "urgew", "urg e", "Urge w", "urge1", "urge 1", "urge12345", "  fee k  ",
            "urge 12345", "urge 00001", "urge 1 2", "urge w w", "urge 1w", "urge w1", "fee kk", "fee k1", "fee +1", "fee 1+", "fee 1+ ", "fee 1++1",
            "fee (1", "fee (1))", "fee )", "fee ()", "fee 1<2<3", "fee 1<2=3", "fee (1<2)<3", "fee 1<2&2<3", "fee 1 ! 2", "fee !", "fee !)",
            "fee(k)", "fee!k", "fee-1", "fee w", "fine k", "urge s", "1", "+", "fee fee", "fee 1 fee", "fee 1&&2", "fee 1||2", "fee 1==2",
            "fee 1\t", "fee 1\0", "fee\tk", "fee 1;", "fee k i", "fee 1+2 3", "fee 1.5", "fee 1 < ", "fees 1", "fe 1", "urge 2*(3+w", "fee 1()",
            "fee k(1)", "fee 1 (2)", "fee (1)2", "fee (1)k", "fee (k)(i)", "fee\u00e9",
            "feez", "zee k", "xine s", "brge w", "fez k", "fee (1;", "fee (1!", "fee (1(", "fee (1<2<3)", "fee (+)", "fee (1+)", "fee !(", "fee (w)",
            "fee 12345)", "fee (12345)", "fee {", "fee `", "fee /1", "fee :", "urge a z"};
        int[] answers = {-100, -101, -107, -104, -105, -104, -100, -100, -100, -104, 0, -104, 0,
            -105, -105, -107, -107, -106, -106, -104, -105, -104, -106, -107, -106,
            -106, -107, -104, -105, -107, -107, 0, 0, -106, -105, -105,
            0, 0, -103, -104, -105, -105, -100, -100, -104, -106, -106, -106, -106,
            -105, -105, -103, -105, -106, -108, -105, -108, -100, -100, -111, -105,
            -105, -106, -107, -107, -107, -103,
            -100, -100, -100, -100, -100, -106, -106, -106, -108, -105, -107, -106, -105,
            -104, -105, -104, -104, -104, -104, -107};
        due.is("as many answers as tapes", tapes.length, answers.length);
        for (int i = 0; i < tapes.length; i++) {
            TattooRoads x = new TattooRoads();
            due.is("text of \"" + tapes[i] + "\"", answers[i], Tapes.tell(x, tapes[i]));
            due.is("how many then", answers[i] == 0 ? 1 : 0, x.count(5));
        }
    }

    private static void faultsByDepth() {
        String eight = "((((((((";
        String ends = "))))))))";
        due.is("eight (", 0, Tapes.tell(new TattooRoads(), "fee " + eight + "1" + ends));
        due.is("nine (", -112, Tapes.tell(new TattooRoads(), "fee (" + eight + "1" + ends + ")"));
        due.is("eight ( twice", 0, Tapes.tell(new TattooRoads(), "fee " + eight + "1" + ends + "+" + eight + "1" + ends));
        due.is("a ninth ( behind a closed one", 0, Tapes.tell(new TattooRoads(), "fee (((((((" + "(1)+(1)" + ")))))))"));
        due.is("eight !", 0, Tapes.tell(new TattooRoads(), "fee !!!!!!!!1"));
        due.is("nine !", -112, Tapes.tell(new TattooRoads(), "fee !!!!!!!!!1"));
        due.is("eight ! twice", 0, Tapes.tell(new TattooRoads(), "fee !!!!!!!!1+!!!!!!!!1"));
        due.is("! within (", 0, Tapes.tell(new TattooRoads(), "fee !(!(!(!(!(!(!(!(1))))))))"));
        due.is("a ninth ! within (", -120, Tapes.tell(new TattooRoads(), "fee !(!(!(!(!(!(!(!(!1))))))))"));
        due.is("! twice within (", 0, Tapes.tell(new TattooRoads(), "fee !(!(!(!(!(!(!(!1+!1)))))))"));
        due.is("eight ! behind eight (", 0, Tapes.tell(new TattooRoads(), "fee " + eight + "!!!!!!!!1" + ends));
        due.is("nine ! behind eight (", -120, Tapes.tell(new TattooRoads(), "fee " + eight + "!!!!!!!!!1" + ends));
        due.is("nine ( behind eight !", -120, Tapes.tell(new TattooRoads(), "fee !!!!!!!!" + "(((((((((" + "1"));
    }

    private static void faultsByBytes() {
        StringBuilder longest = new StringBuilder("fee 1");
        while (longest.length() < 95) {
            longest.append("+1");
        }
        TattooRoads x = new TattooRoads();
        due.is("95 signs", 95, longest.length());
        due.is("a long text", 0, Tapes.tell(x, longest.toString()));
        due.is("its value", 46, x.fee());
        due.is("its numbers", 46, x.textTold(0, 1));
        due.is("96 bytes, too soon at the end", -196, Tapes.tell(x, longest + "+"));
        due.is("a fault at the last byte", -195, Tapes.tell(x, longest + ")"));
        for (int sign = 0; sign < 256; sign++) {
            boolean goesOn = sign == ' ' || sign >= '0' && sign <= '9';
            TattooRoads y = new TattooRoads();
            boolean tooSoon = "+-*/<=>&|".indexOf(sign) >= 0;
            int want = goesOn ? 0 : tooSoon ? -106 : -105;
            due.is("fee 1 and byte " + sign, want, Tapes.tell(y, "fee 1" + (char) sign));
        }
    }

    private static void faultStandsAheadOfFull() {
        TattooRoads x = new TattooRoads();
        for (int i = 0; i < 14; i++) {
            Tapes.tell(x, "fee " + i);
        }
        due.is("a fault ahead of FULL", -104, Tapes.tell(x, "fee w"));
        due.is("FULL", FULL, Tapes.tell(x, "fee 99"));
        due.is("the fourteenth counts", 13, x.fee());
    }

    private static void textsAreTold() {
        TattooRoads x = new TattooRoads();
        Tapes.tell(x, "urge w + a * (12 - o) | !w");
        Tapes.tell(x, "fee 1");
        Tapes.tell(x, "fine ((s)) < p & 0");
        int[][] told = {{0, 5}, {1, 1}, {2, 3}};
        for (int text = 0; text < 3; text++) {
            due.is("key of " + text, told[text][0], x.textTold(text, 0));
            due.is("numbers and names of " + text, told[text][1], x.textTold(text, 1));
        }
        int[][] wrong = {{-1, 0}, {3, 0}, {0, -1}, {0, 2}, {LOW, 0}, {HIGH, 0}, {14, 0}};
        for (int[] w : wrong) {
            due.is("textTold wrong " + w[0] + " " + w[1], BAD, x.textTold(w[0], w[1]));
        }
    }

    private static void theLastTextCounts() {
        TattooRoads x = new TattooRoads();
        due.is("why -1", BAD, x.why(-1));
        due.is("why 3", BAD, x.why(3));
        for (int key = 0; key < 3; key++) {
            due.is("none for " + key, NONE, x.why(key));
        }
        Tapes.tell(x, "fee 5");
        Tapes.tell(x, "fine 6");
        Tapes.tell(x, "fee 7");
        due.is("why fee", 2, x.why(1));
        due.is("why fine", 1, x.why(2));
        due.is("why urge", NONE, x.why(0));
        due.is("fee", 7, x.fee());
        Tapes.tell(x, "fee )");
        due.is("a fault does not count", 2, x.why(1));
    }
}
