/** Promises 30 to 34 and part 4: each boundary case has a test of its own. */
public final class EdgesTextsTest extends Edges {
    public static void main(String[] args) throws ReflectiveOperationException {
        run(EdgesTextsTest.class, 30, 34);
    }

    /** What text() answers to these signs alone on THE TAPE of a new object. */
    private static int answer(String signs) {
        return Tapes.tell(fresh(), signs);
    }

    private static void faultAt(int place, String signs) {
        is(-100 - place, answer(signs));
    }

    /** What fee gives by this E. */
    private static void gives(int value, String expression) {
        TattooRoads x = fresh();
        is(0, Tapes.tell(x, "fee " + expression));
        is(value, x.fee());
    }

    // ---- promise 30: feed

    static void p30_twelveBytes() {
        TattooRoads x = fresh();
        is(12, x.feed(0, 0, 0));
        is(12, x.count(7));
    }

    static void p30_ninetySixAtMost() {
        TattooRoads x = fresh();
        for (int i = 1; i <= 8; i++) {
            is(12 * i, x.feed(-1, LOW, HIGH));
        }
        is(FULL, x.feed(0, 0, 0));
        is(96, x.count(7));
    }

    static void p30_justUpTo96() {
        TattooRoads x = fresh();
        for (int i = 0; i < 8; i++) {
            x.feed(0, 0, 0);
        }
        x.trim(84);
        is(96, x.feed(0, 0, 0));
    }

    static void p30_oneAbove96() {
        TattooRoads x = fresh();
        for (int i = 0; i < 8; i++) {
            x.feed(0, 0, 0);
        }
        x.trim(85);
        is(FULL, x.feed(0, 0, 0));
        is(85, x.count(7));
    }

    static void p30_highestByteFirst() {
        TattooRoads x = fresh();
        x.feed(0x66656520, 0x31323334, 0x2B353637);
        is(0, x.text());
        is(1234 + 567, x.fee());
    }

    static void p30_fullNothingComes() {
        TattooRoads x = fresh();
        Tapes.feed(x, "fee 7" + times(" ", 91));
        is(FULL, x.feed(-1, -1, -1));
        is(0, x.text());
        is(7, x.fee());
    }

    static void p30_numbersBelow0() {
        // the bytes are 0xFF each: signs, not below 0
        TattooRoads x = fresh();
        x.feed('f' << 24 | 'e' << 16 | 'e' << 8 | ' ', '1' << 24 | 0xFF << 16 | 0xFF << 8 | 0xFF, -1);
        is(-105, x.text());
    }

    static void p30_whenTheTapeWasUsedUp() {
        TattooRoads x = fresh();
        for (int i = 0; i < 8; i++) {
            x.feed(0, 0, 0);
        }
        x.text();
        is(12, x.feed(0, 0, 0));
    }

    // ---- promise 31: trim

    static void p31_nBelow0() {
        TattooRoads x = fresh();
        x.feed(0, 0, 0);
        is(BAD, x.trim(-1));
        is(BAD, x.trim(LOW));
        is(12, x.count(7));
    }

    static void p31_nAboveWhatItHas() {
        TattooRoads x = fresh();
        is(BAD, x.trim(1));
        x.feed(0, 0, 0);
        is(BAD, x.trim(13));
        is(BAD, x.trim(96));
        is(BAD, x.trim(HIGH));
        is(12, x.count(7));
    }

    static void p31_allOfIt() {
        TattooRoads x = fresh();
        is(0, x.trim(0));
        x.feed(0, 0, 0);
        is(12, x.trim(12));
        is(12, x.count(7));
    }

    static void p31_noneOfIt() {
        TattooRoads x = fresh();
        x.feed(0, 0, 0);
        is(0, x.trim(0));
        is(0, x.count(7));
        is(-100, x.text());
    }

    static void p31_itsFirstBytes() {
        TattooRoads x = fresh();
        x.feed(0x66656520, 0x31323334, 0x2B353637);
        is(6, x.trim(6));
        is(0, x.text());
        is(12, x.fee());
    }

    static void p31_isNotUsedUp() {
        TattooRoads x = fresh();
        x.feed(0, 0, 0);
        x.trim(5);
        is(5, x.count(7));
        is(5, x.trim(5));
    }

    // ---- promise 32: text: numbers, FULL, the tape is used up

    static void p32_numberedFrom0() {
        TattooRoads x = fresh();
        for (int i = 0; i < 14; i++) {
            is(i, Tapes.tell(x, "fee 1"));
        }
    }

    static void p32_fourteenAtMost() {
        TattooRoads x = fresh();
        for (int i = 0; i < 14; i++) {
            Tapes.tell(x, "fee " + i);
        }
        is(FULL, Tapes.tell(x, "fee 99"));
        is(14, x.count(5));
        is(13, x.why(1));
        is(13, x.fee());
    }

    static void p32_aFaultStandsAheadOfFull() {
        TattooRoads x = fresh();
        for (int i = 0; i < 14; i++) {
            Tapes.tell(x, "fee 1");
        }
        is(-104, Tapes.tell(x, "fee )"));
        is(-100, x.text());
    }

    static void p32_usedUpByAText() {
        TattooRoads x = fresh();
        Tapes.tell(x, "fee 1");
        is(0, x.count(7));
    }

    static void p32_usedUpByAFault() {
        TattooRoads x = fresh();
        Tapes.tell(x, "fee )");
        is(0, x.count(7));
        is(0, x.count(5));
    }

    static void p32_usedUpByFull() {
        TattooRoads x = fresh();
        for (int i = 0; i < 14; i++) {
            Tapes.tell(x, "fee 1");
        }
        Tapes.tell(x, "fee 1");
        is(0, x.count(7));
        is(-100, x.text());
    }

    static void p32_aFaultChangesNoText() {
        TattooRoads x = fresh();
        Tapes.tell(x, "fee 5");
        is(-106, Tapes.tell(x, "fee 6+)"));
        is(1, x.count(5));
        is(0, x.why(1));
        is(5, x.fee());
        is(1, x.textTold(0, 1));
    }

    static void p32_behindAFaultAnotherTextStands() {
        String[] faults = {"fee w", "fee 12345", "fee", "1", "fee (", "fee ;", "fee1"};
        for (String fault : faults) {
            TattooRoads x = fresh();
            is(1, Tapes.tell(x, fault) <= -100 ? 1 : 0);
            is(0, Tapes.tell(x, "fee 7"));
            is(7, x.fee());
        }
    }

    static void p32_bothSidesAreWorkedOut() {
        gives(0, "0&5/0");
        gives(1, "1|5/0");
        gives(0, "(5/0)&1");
    }

    static void p32_anEmptyTape() {
        is(-100, fresh().text());
    }

    static void p32_aTapeOfBlanksAlone() {
        faultAt(1, " ");
        faultAt(96, times(" ", 96));
    }

    // ---- text: ends that come too soon

    static void p32_theEndBehindTheKey() {
        faultAt(3, "fee");
        faultAt(4, "urge");
        faultAt(4, "fine");
    }

    static void p32_theEndIsBehindTheLastByteNotTheLastWord() {
        faultAt(6, "fee   ");
        faultAt(9, "fee 1+   ");
    }

    static void p32_theEndBehindASign() {
        faultAt(6, "fee 1+");
        faultAt(6, "fee 1-");
        faultAt(6, "fee 1*");
        faultAt(6, "fee 1/");
        faultAt(6, "fee 1<");
        faultAt(6, "fee 1=");
        faultAt(6, "fee 1>");
        faultAt(6, "fee 1&");
        faultAt(6, "fee 1|");
        faultAt(5, "fee !");
        faultAt(5, "fee (");
    }

    static void p32_theEndBeforeParenthesesClose() {
        faultAt(6, "fee (1");
        faultAt(8, "fee ((1)");
    }

    static void p32_theEndAtByte96() {
        faultAt(96, "fee 1" + times("+1", 45) + "+");
        is(0, answer("fee 1" + times("+1", 45) + " "));
        faultAt(95, "fee 1" + times("+1", 45) + ")");
    }

    // ---- text: the key

    static void p32_theKeys() {
        is(0, answer("urge 1"));
        is(0, answer("fee 1"));
        is(0, answer("fine 1"));
    }

    static void p32_noKey() {
        faultAt(0, "1");
        faultAt(0, "+");
        faultAt(0, "fe 1");
        faultAt(0, "fees 1");
        faultAt(0, "urg 1");
        faultAt(0, "fin 1");
        faultAt(0, "Fee 1");
        faultAt(0, "zee 1");
        faultAt(0, "ffe 1");
        faultAt(0, "fez 1");
        faultAt(2, "  fo 1");
    }

    static void p32_aKeyAndALetterRightBehindAreOneWord() {
        faultAt(0, "feek");
        faultAt(0, "urgew");
        faultAt(0, "feea 1");
        faultAt(0, "feez 1");
    }

    static void p32_aNumberRightBehindTheKeyNeedsABlank() {
        faultAt(3, "fee1");
        faultAt(4, "urge1");
        faultAt(4, "fine12345");
        is(0, answer("fee 1"));
    }

    static void p32_aSignRightBehindTheKeyNeedsNone() {
        is(0, answer("fee(1)"));
        is(0, answer("fee!1"));
    }

    static void p32_twoKeys() {
        faultAt(4, "fee fee 1");
        faultAt(6, "fee 1 fee");
    }

    // ---- text: blanks

    static void p32_blanksAtTheEnds() {
        is(0, answer("   fee 1   "));
    }

    static void p32_blanksBetween() {
        is(0, answer("fee  (  1  +  2  )  *  3"));
        gives(9, "( 1+2 ) *3");
    }

    static void p32_noBlankBetweenWordsAndSigns() {
        is(0, answer("fee(1+2)*k<i&!3|4"));
    }

    static void p32_blanksMakeTwoNumbers() {
        faultAt(6, "fee 1 2");
    }

    static void p32_blanksAreByte32Alone() {
        faultAt(5, "fee 1\t");
        faultAt(5, "fee 1\n");
        faultAt(5, "fee 1\0");
        faultAt(5, "fee 1\u00a0");
        faultAt(0, "\tfee 1");
    }

    // ---- text: words

    static void p32_aNameRightBehindANumberNeedsABlank() {
        faultAt(5, "fee 1k");
        faultAt(6, "fee 1 k");
    }

    static void p32_aNumberRightBehindANameNeedsABlank() {
        faultAt(5, "fee k1");
    }

    static void p32_oneDigit() {
        gives(0, "0");
        gives(9, "9");
    }

    static void p32_fourDigits() {
        gives(9999, "9999");
        gives(1, "0001");
        gives(0, "0000");
    }

    static void p32_fiveDigits() {
        faultAt(4, "fee 10000");
        faultAt(4, "fee 00001");
        faultAt(6, "fee 1+12345");
        faultAt(4, "fee " + times("9", 92));
    }

    static void p32_namesOfTheKeyAlone() {
        String[] keys = {"urge", "fee", "fine"};
        String[] names = {"wao", "ki", "sp"};
        for (int key = 0; key < 3; key++) {
            for (char name = 'a'; name <= 'z'; name++) {
                boolean right = names[key].indexOf(name) >= 0;
                is(right ? 0 : -100 - keys[key].length() - 1, answer(keys[key] + " " + name));
            }
        }
    }

    static void p32_namesAreOneLetter() {
        faultAt(4, "fee kk");
        faultAt(4, "fee ki");
        faultAt(5, "urge wao");
    }

    static void p32_capitalsAreSigns() {
        faultAt(4, "fee K");
        faultAt(5, "fee kK");
    }

    static void p32_signsBesideLettersAndDigits() {
        faultAt(4, "fee `");
        faultAt(4, "fee {");
        faultAt(4, "fee :");
        faultAt(4, "fee /");
    }

    static void p32_anyOtherByteIsASignByItself() {
        for (int sign = 0; sign < 256; sign++) {
            boolean word = sign >= 'a' && sign <= 'z' || sign >= '0' && sign <= '9' || sign == ' ';
            if (!word && "!(".indexOf(sign) < 0) {
                faultAt(4, "fee " + (char) sign + (char) sign);
            }
        }
    }

    // ---- text: where no TEXT goes on

    static void p32_aWordBehindAWholeText() {
        faultAt(6, "fee 1 k");
        faultAt(6, "fee k 1");
        faultAt(8, "fee (1) 2");
    }

    static void p32_aSignBehindAWholeText() {
        faultAt(5, "fee 1)");
        faultAt(7, "fee (1))");
        faultAt(5, "fee 1!");
        faultAt(5, "fee 1(");
    }

    static void p32_twoSignsInARow() {
        faultAt(6, "fee 1++1");
        faultAt(6, "fee 1&&1");
        faultAt(6, "fee 1||1");
        faultAt(6, "fee 1==1");
        faultAt(6, "fee 1<=1");
    }

    static void p32_aSignAhead() {
        faultAt(4, "fee +1");
        faultAt(4, "fee -1");
        faultAt(4, "fee )");
        faultAt(5, "fee ()");
        faultAt(5, "fee !)");
    }

    static void p32_oneTestAtMost() {
        faultAt(7, "fee 1<2<3");
        faultAt(7, "fee 1=2=3");
        faultAt(7, "fee 1>2=3");
        faultAt(8, "fee (1<2<3)");
    }

    static void p32_testsInParenthesesOrJoined() {
        gives(1, "(1<2)<3");
        gives(1, "1<2&2<3");
        gives(1, "3<2|2<3");
    }

    // ---- text: what is open

    static void p32_eightParenthesesAreOpen() {
        is(0, answer("fee " + times("(", 8) + "1" + times(")", 8)));
    }

    static void p32_theNinthParenthesis() {
        faultAt(12, "fee " + times("(", 9) + "1" + times(")", 9));
        faultAt(20, "fee " + times("( ", 9) + "1");
        faultAt(26, "fee " + times("(1+", 7) + "(" + "(");
    }

    static void p32_aClosedOneIsOpenNoMore() {
        is(0, answer("fee " + times("(", 7) + "(1)+(2)+(3)" + times(")", 7)));
        is(0, answer("fee " + times("(", 8) + "1" + times(")", 8) + "*" + times("(", 8) + "1" + times(")", 8)));
    }

    static void p32_eightNots() {
        is(0, answer("fee " + times("!", 8) + "1"));
        gives(1, times("!", 8) + "1");
        gives(0, times("!", 7) + "1");
    }

    static void p32_theNinthNot() {
        faultAt(12, "fee " + times("!", 9) + "1");
        faultAt(20, "fee " + times("! ", 9) + "1");
    }

    static void p32_nineNotsBesideOneAnother() {
        is(0, answer("fee " + times("!1+", 9) + "1"));
        is(0, answer("fee " + times("!", 8) + "1+" + times("!", 8) + "1"));
    }

    static void p32_theNinthNotWithinParentheses() {
        is(0, answer("fee " + times("!(", 8) + "1" + times(")", 8)));
        faultAt(13, "fee !!!!(!!!!!1)");
    }

    static void p32_eachByItself() {
        is(0, answer("fee " + times("(", 8) + times("!", 8) + "1" + times(")", 8)));
        faultAt(20, "fee " + times("(", 8) + times("!", 9) + "1" + times(")", 8));
        faultAt(20, "fee " + times("!", 8) + times("(", 9) + "1" + times(")", 9));
    }

    // ---- text: what it gives

    static void p32_intsWrap() {
        gives(9999 * 9999 * 9999, "9999*9999*9999");
        gives(LOW, "8*8*8*8*8*8*8*8*8*8*2");
        gives(HIGH, "8*8*8*8*8*8*8*8*8*8*2-1");
        gives(LOW, "8*8*8*8*8*8*8*8*8*8*2-1+1");
    }

    static void p32_theLowestByMinus1() {
        gives(LOW, "8*8*8*8*8*8*8*8*8*8*2/(0-1)");
        gives(LOW, "8*8*8*8*8*8*8*8*8*8*2*(0-1)");
    }

    static void p32_by0Is0() {
        gives(0, "5/0");
        gives(0, "0/0");
        gives(0, "(0-5)/0");
        gives(7, "5/(3-3)+7");
    }

    static void p32_cutsTowards0() {
        gives(2, "5/2");
        gives(-2, "(0-5)/2");
        gives(-2, "5/(0-2)");
        gives(2, "(0-5)/(0-2)");
        gives(0, "(0-1)/2");
    }

    static void p32_whatIsNot0IsTrue() {
        gives(1, "5&7");
        gives(1, "(0-1)&2");
        gives(0, "5&0");
        gives(0, "0&5");
        gives(1, "0|9");
        gives(1, "(0-9)|0");
        gives(0, "0|0");
        gives(0, "!9");
        gives(0, "!(0-9)");
        gives(1, "!0");
    }

    static void p32_testsGive1Or0() {
        gives(1, "1<2");
        gives(0, "2<2");
        gives(0, "3<2");
        gives(1, "2=2");
        gives(0, "2=3");
        gives(1, "3>2");
        gives(0, "2>2");
        gives(0, "1>2");
    }

    static void p32_testsOfWhatWrapped() {
        gives(1, "8*8*8*8*8*8*8*8*8*8*2<0");
        gives(1, "(8*8*8*8*8*8*8*8*8*8*2-1)>0");
    }

    static void p32_fromLeftToRight() {
        gives(4, "9-3-2");
        gives(10, "100/5/2");
        gives(8, "9-3+2");
        gives(14, "7*6/3");
        gives(12, "7/3*6");
    }

    static void p32_theLoosestFirst() {
        gives(14, "2+3*4");
        gives(1, "1+1<3");
        gives(1, "1&2<3");
        gives(1, "1|0&0");
        gives(5, "!1+5");
        gives(0, "!0*0");
        gives(1, "1=(2<3)");
    }

    // ---- promise 33: textTold

    static void p33_textBelow0() {
        TattooRoads x = fresh();
        Tapes.tell(x, "fee 1");
        is(BAD, x.textTold(-1, 0));
        is(BAD, x.textTold(LOW, 0));
    }

    static void p33_textThatIsNot() {
        TattooRoads x = fresh();
        is(BAD, x.textTold(0, 0));
        Tapes.tell(x, "fee 1");
        is(BAD, x.textTold(1, 0));
        is(BAD, x.textTold(13, 1));
        is(BAD, x.textTold(14, 1));
        is(BAD, x.textTold(HIGH, 1));
    }

    static void p33_theLastOfFourteen() {
        TattooRoads x = fresh();
        for (int i = 0; i < 13; i++) {
            Tapes.tell(x, "fee 1");
        }
        Tapes.tell(x, "fine 1+2");
        is(2, x.textTold(13, 0));
        is(2, x.textTold(13, 1));
        is(BAD, x.textTold(14, 0));
    }

    static void p33_whatBelow0() {
        TattooRoads x = fresh();
        Tapes.tell(x, "fee 1");
        is(BAD, x.textTold(0, -1));
        is(BAD, x.textTold(0, LOW));
    }

    static void p33_whatAbove1() {
        TattooRoads x = fresh();
        Tapes.tell(x, "fee 1");
        is(BAD, x.textTold(0, 2));
        is(BAD, x.textTold(0, HIGH));
    }

    static void p33_keys() {
        TattooRoads x = fresh();
        Tapes.tell(x, "fine 1");
        Tapes.tell(x, "urge 1");
        Tapes.tell(x, "fee 1");
        is(2, x.textTold(0, 0));
        is(0, x.textTold(1, 0));
        is(1, x.textTold(2, 0));
    }

    static void p33_oneNumberAtLeast() {
        TattooRoads x = fresh();
        Tapes.tell(x, "fee !!(((1)))");
        is(1, x.textTold(0, 1));
    }

    static void p33_numbersAndNamesEachTime() {
        TattooRoads x = fresh();
        Tapes.tell(x, "fee k+k*1234-k/0|i");
        is(6, x.textTold(0, 1));
    }

    static void p33_asManyAsTheTapeHolds() {
        TattooRoads x = fresh();
        Tapes.tell(x, "fee 1" + times("+k", 45));
        is(46, x.textTold(0, 1));
        is(1, x.fee());
    }

    // ---- promise 34: why

    static void p34_keyBelow0() {
        is(BAD, fresh().why(-1));
        is(BAD, fresh().why(LOW));
    }

    static void p34_keyAbove2() {
        is(BAD, fresh().why(3));
        is(BAD, fresh().why(HIGH));
    }

    static void p34_none() {
        for (int key = 0; key < 3; key++) {
            is(NONE, fresh().why(key));
        }
    }

    static void p34_thatWasToldLast() {
        TattooRoads x = fresh();
        Tapes.tell(x, "urge 1");
        Tapes.tell(x, "urge 2");
        is(1, x.why(0));
        is(NONE, x.why(1));
        is(NONE, x.why(2));
        Tapes.tell(x, "fine 3");
        is(1, x.why(0));
        is(2, x.why(2));
    }

    static void p34_aFaultDoesNotCount() {
        TattooRoads x = fresh();
        Tapes.tell(x, "fee 1");
        Tapes.tell(x, "fee");
        is(0, x.why(1));
    }

    static void p34_asTheImageHadIt() {
        TattooRoads x = fresh();
        Tapes.tell(x, "fee 1");
        x.keep();
        Tapes.tell(x, "fee 2");
        is(1, x.why(1));
        x.back();
        is(0, x.why(1));
    }
}
