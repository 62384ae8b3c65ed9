/**
 * The boundary cases of the RULES' texts in the terms (tokens, grammar, work, faults), and of promise
 * 27 (says). The comment ahead of each test is the sentence that it holds the class to.
 */
public final class TextBoundsTest {
    private static final Due DUE = new Due();
    private static final int LEAST = Integer.MIN_VALUE;
    private static final int MOST = Integer.MAX_VALUE;

    public static void main(String[] args) {
        blanksAreAside();
        onlyByteThirtyTwoIsABlank();
        eachByteInAnOperandsPlace();
        eachByteBehindAnOperand();
        lettersBehindOneAnotherAreOne();
        capitalLettersAreLetters();
        digitsBehindOneAnotherAreOne();
        numbersAreZeroToTheLargest();
        aNumberAboveTheLargest();
        anIfStandsWhereAnEDoes();
        anIfHasItsThenAndElse();
        oneComparisonAtMost();
        signsOfOneKindGoFromTheLeft();
        minusBindsItsU();
        bracketsHoldAnE();
        theNumbersGoRound();
        byZeroGivesZero();
        lessAndEqual();
        ifTakesWhatIsNotZero();
        theEndIsAtTheLength();
        theFirstFaultCounts();
        sixtyTokens();
        tokensOfAllKindsCount();
        tenOpen();
        openOfAllKindsTogether();
        anIfIsOpenToTheEndOfItsLastE();
        aMinusIsOpenToTheEndOfItsU();
        aBracketIsOpenToItsEnd();
        aMinusBetweenTwoIsNotOpen();
        saysTakesARule();
        saysTakesAnyNumbers();
        DUE.finish();
    }

    private static String shown(String text) {
        StringBuilder s = new StringBuilder("\"");
        for (char c : text.toCharArray()) {
            s.append(c >= 32 && c < 127 ? "" + c : "\\" + (int) c);
        }
        return s.append('"').toString();
    }

    private static void says(String text, int f, int n, int d, int want) {
        SmallHarbour x = new SmallHarbour();
        DUE.is("rule of " + shown(text), Texts.rule(x, text, 0), 0);
        DUE.is("fault of " + shown(text), x.fault(0), 0);
        DUE.is("place of the fault of " + shown(text), x.fault(1), -1);
        DUE.is("says " + shown(text), x.says(0, f, n, d), want);
    }

    private static void says(String text, int want) {
        says(text, 7, 8, 9, want);
    }

    private static void faulty(String text, int fault, int place) {
        SmallHarbour x = new SmallHarbour();
        DUE.is("rule of " + shown(text), Texts.rule(x, text, 0), -1);
        DUE.is("fault of " + shown(text), x.fault(0), fault);
        DUE.is("place of the fault of " + shown(text), x.fault(1), place);
        DUE.is("rules behind " + shown(text), x.about(6), 0);
    }

    // "TOKENS, blanks (32) aside": ahead, behind, between, or none at all.
    private static void blanksAreAside() {
        says("1+2", 3);
        says(" 1+2", 3);
        says("1+2 ", 3);
        says("  1  +  2  ", 3);
        says("if 1then 2else 3", 2);
        says("if1then2else3", 2);
        says("  if  1  then  2  else  3  ", 2);
    }

    // The same: the bytes beside 32, and other blanks, are none.
    private static void onlyByteThirtyTwoIsABlank() {
        for (int c : new int[] {0, 9, 10, 11, 12, 13, 31, 33, 95, 127, 128, 133, 160, 255}) {
            faulty("1+2" + (char) c, 1, 3);
            faulty((char) c + "1+2", 1, 0);
        }
    }

    // "1 it can't stand there, or is none": each of the 256 bytes where an operand is due.
    private static void eachByteInAnOperandsPlace() {
        for (int c = 0; c < 256; c++) {
            String text = "1+" + (char) c;
            if (c == 'f' || c == 'n' || c == 'd') {
                says(text, c == 'f' ? 8 : c == 'n' ? 9 : 10);
            } else if (c >= '0' && c <= '9') {
                says(text, 1 + c - '0');
            } else if (c == ' ' || c == '(' || c == '-') {
                faulty(text, 1, 3);
            } else {
                faulty(text, 1, 2);
            }
        }
    }

    // The same where an operand has been.
    private static void eachByteBehindAnOperand() {
        for (int c = 0; c < 256; c++) {
            String text = "(1)" + (char) c;
            if (c == ' ') {
                says(text, 1);
            } else if ("+-*/%<=".indexOf(c) >= 0) {
                faulty(text, 1, 4);
                says(text + "1", new int[] {2, 0, 1, 1, 0, 0, 1}["+-*/%<=".indexOf(c)]);
            } else {
                faulty(text, 1, 3);
            }
        }
    }

    // "letters .. one behind the other are one".
    private static void lettersBehindOneAnotherAreOne() {
        faulty("fn", 1, 0);
        faulty("f n", 1, 2);
        faulty("ff", 1, 0);
        faulty("nf", 1, 0);
        faulty("1+fd", 1, 2);
        faulty("iff then 1 else 2", 1, 0);
        faulty("i f 1 then 2 else 3", 1, 0);
        faulty("if 1 thenn else 3", 1, 5);
        faulty("if 1 the n 2 else 3", 1, 5);
        faulty("if 1 then f elsef", 1, 12);
        faulty("if n thenelse 3", 1, 5);
        faulty("athen", 1, 0);
        faulty("if 1 athen 2 else 3", 1, 5);
        faulty("if 1 then 2 aelse 3", 1, 12);
        faulty("if 1 thena 2 else 3", 1, 5);
        faulty("if 1 hen 2 else 3", 1, 5);
        faulty("aif 1 then 2 else 3", 1, 0);
        faulty("thenif", 1, 0);
        faulty("a".repeat(200), 1, 0);
        faulty("f".repeat(200), 1, 0);
        faulty("if 1 then 2 " + "x".repeat(184) + "else", 1, 12);
        says("if f then n else d", 8);
    }

    // "letters, small and capital ones": one behind the other are one, and words are small ones.
    private static void capitalLettersAreLetters() {
        faulty("F", 1, 0);
        faulty("N", 1, 0);
        faulty("D", 1, 0);
        faulty("fF", 1, 0);
        faulty("Af", 1, 0);
        faulty("fZ", 1, 0);
        faulty("If 1 then 2 else 3", 1, 0);
        faulty("IF 1 then 2 else 3", 1, 0);
        faulty("if 1 Then 2 else 3", 1, 5);
        faulty("if 1 then 2 ELSE 3", 1, 12);
        for (char beside : new char[] {'@', '[', '`', '{'}) {
            faulty("f" + beside, 1, 1);
        }
        for (char first : new char[] {'a', 'z', 'A', 'Z'}) {
            faulty("f" + first, 1, 0);
        }
    }

    // "digits likewise": a number and a letter are two.
    private static void digitsBehindOneAnotherAreOne() {
        says("12", 12);
        says("12345", 12345);
        says("67890", 67890);
        says("90909", 90909);
        faulty("1 2", 1, 2);
        faulty("1f", 1, 1);
        faulty("f1", 1, 1);
        says("1/2", 0);
        faulty("1/2#", 1, 3);
        faulty("1:", 1, 1);
        faulty("1.5", 1, 1);
        faulty("1,5", 1, 1);
    }

    // "NUMBERS (0 .. 99999)".
    private static void numbersAreZeroToTheLargest() {
        says("0", 0);
        says("1", 1);
        says("9", 9);
        says("10", 10);
        says("99998", 99998);
        says("99999", 99999);
        says("00", 0);
        says("099999", 99999);
        says("0".repeat(194) + "099999", 99999);
        says("-99999", -99999);
    }

    // "2 a NUMBER above 99999", also where it would go round.
    private static void aNumberAboveTheLargest() {
        faulty("100000", 2, 0);
        faulty("100001", 2, 0);
        faulty("0100000", 2, 0);
        faulty("999999", 2, 0);
        faulty("2147483647", 2, 0);
        faulty("2147483648", 2, 0);
        faulty("4294967295", 2, 0);
        faulty("4294967296", 2, 0);
        faulty("4294967297", 2, 0);
        faulty("18446744073709551616", 2, 0);
        faulty("1" + "0".repeat(199), 2, 0);
        faulty("9".repeat(200), 2, 0);
        faulty("f+  100000", 2, 4);
        faulty("-100000", 2, 1);
        faulty("if 100000 then 1 else 2", 2, 3);
        faulty("if 0 then 100000 else 2", 2, 10);
    }

    // "E: if E then E else E; C": an if stands at the beginning of an E and nowhere else.
    private static void anIfStandsWhereAnEDoes() {
        says("if 1 then 2 else 3", 2);
        says("(if 1 then 2 else 3)", 2);
        says("if if 1 then 0 else 1 then 2 else 3", 3);
        says("if 1 then if 0 then 2 else 4 else 3", 4);
        says("if 0 then 1 else if 1 then 5 else 6", 5);
        faulty("1+if 1 then 2 else 3", 1, 2);
        faulty("1*if 1 then 2 else 3", 1, 2);
        faulty("1<if 1 then 2 else 3", 1, 2);
        faulty("-if 1 then 2 else 3", 1, 1);
        faulty("1 if 1 then 2 else 3", 1, 2);
        says("1+(if 1 then 2 else 3)", 3);
        says("-(if 1 then 2 else 3)", -2);
    }

    // The same: each of its parts is there, in its order.
    private static void anIfHasItsThenAndElse() {
        faulty("if", 1, 2);
        faulty("if 1", 1, 4);
        faulty("if 1 2", 1, 5);
        faulty("if then", 1, 3);
        faulty("if 1 then", 1, 9);
        faulty("if 1 then 2", 1, 11);
        faulty("if 1 then else", 1, 10);
        faulty("if 1 then 2 else", 1, 16);
        faulty("if 1 then 2 then 3", 1, 12);
        faulty("if 1 else 2", 1, 5);
        faulty("if 1 then 2 else 3 else 4", 1, 19);
        faulty("if 1 then 2 else 3 then 4", 1, 19);
        faulty("then", 1, 0);
        faulty("else", 1, 0);
        faulty("1 then 2", 1, 2);
        says("if 0 then 2 else 3+4", 7);
        says("if 1 then 2 else 3+4", 2);
        says("if 0 then 2 else 3<4", 1);
        says("if 1<2 then 3<2 else 5", 0);
    }

    // "C: S [(< or =) S]": one, or none.
    private static void oneComparisonAtMost() {
        says("1+1", 2);
        says("1<2", 1);
        says("1=2", 0);
        faulty("1<2<3", 1, 3);
        faulty("1<2=3", 1, 3);
        faulty("1=2<3", 1, 3);
        faulty("1=2=3", 1, 3);
        faulty("1==2", 1, 2);
        faulty("1<=2", 1, 2);
        faulty("<2", 1, 0);
        faulty("1<", 1, 2);
        says("(1<2)<3", 1);
        says("3<(1<2)", 0);
        says("1+1<1*3", 1);
        says("(1<2)=(3<4)", 1);
    }

    // "S: T {(+ or -) T}. T: U {(* or / or %) U}": none, one, or more, from the left.
    private static void signsOfOneKindGoFromTheLeft() {
        says("10-3-2", 5);
        says("10-3+2", 9);
        says("100/10/5", 2);
        says("100/10*5", 50);
        says("100%30*2", 20);
        says("7*100%30", 10);
        says("2+3*4", 14);
        says("2*3+4", 10);
        says("20-6/3", 18);
        says("20-7%3", 19);
        faulty("1+*2", 1, 2);
        faulty("1*/2", 1, 2);
        faulty("1++2", 1, 2);
        faulty("*1", 1, 0);
        faulty("+1", 1, 0);
        faulty("1*", 1, 2);
        faulty("1%", 1, 2);
    }

    // "U: - U": of the number behind it alone, and of another -.
    private static void minusBindsItsU() {
        says("-1", -1);
        says("--1", 1);
        says("---1", -1);
        says("-2+3", 1);
        says("-2*3", -6);
        says("-7/2", -3);
        says("-7%2", -1);
        says("7%-2", 1);
        says("2--1", 3);
        says("2*-3", -6);
        says("0-7/2", -3);
        says("-f", -7);
        says("-n+d", 1);
        faulty("-", 1, 1);
        faulty("1-", 1, 2);
        faulty("-+1", 1, 1);
        faulty("-<1", 1, 1);
        faulty("-)", 1, 1);
    }

    // "( E )".
    private static void bracketsHoldAnE() {
        says("(1)", 1);
        says("((1))", 1);
        says("(1+2)*3", 9);
        says("2*(3-1)", 4);
        says("(1<2)", 1);
        faulty("(", 1, 1);
        faulty("()", 1, 1);
        faulty(")", 1, 0);
        faulty("(1", 1, 2);
        faulty("1)", 1, 1);
        faulty("(1))", 1, 3);
        faulty("((1)", 1, 4);
        faulty("(1 2)", 1, 3);
        faulty("(1)(2)", 1, 3);
        faulty("1(2)", 1, 1);
        faulty("(if 1 then 2) else 3", 1, 12);
        faulty("if (1 then 2 else 3)", 1, 6);
    }

    // "32-bit numbers, Java's work": it goes round.
    private static void theNumbersGoRound() {
        says("f+n", MOST, 0, 0, MOST);
        says("f+n", MOST, 1, 0, LEAST);
        says("f+n", MOST, MOST, 0, -2);
        says("f-n", LEAST, 0, 0, LEAST);
        says("f-n", LEAST, 1, 0, MOST);
        says("f-n", 0, LEAST, 0, LEAST);
        says("f*n", 1 << 30, 2, 0, LEAST);
        says("f*n", 1 << 16, 1 << 16, 0, 0);
        says("f*n", LEAST, -1, 0, LEAST);
        says("f*n", MOST, MOST, 0, 1);
        says("-f", LEAST, 0, 0, LEAST);
        says("-f", MOST, 0, 0, LEAST + 1);
        says("99999*99999", 99999 * 99999);
        says("f/n", LEAST, -1, 0, LEAST);
        says("f%n", LEAST, -1, 0, 0);
        says("f/n", LEAST, 1, 0, LEAST);
        says("f/n", -7, 2, 0, -3);
        says("f/n", 7, -2, 0, -3);
        says("f%n", -7, 2, 0, -1);
        says("f%n", 7, -2, 0, 1);
        says("f%n", LEAST, MOST, 0, -1);
    }

    // "/ and % by 0 give 0".
    private static void byZeroGivesZero() {
        for (int f : new int[] {LEAST, -1, 0, 1, MOST}) {
            says("f/n", f, 0, 0, 0);
            says("f%n", f, 0, 0, 0);
            says("f/n", f, 1, 0, f);
            says("f%n", f, 1, 0, 0);
            says("f/n", f, -1, 0, -f);
            says("f%n", f, -1, 0, 0);
        }
        says("5/0", 0);
        says("5%0", 0);
        says("5/-0", 0);
        says("3+5/0", 3);
        says("3*5%(2-2)+1", 1);
        says("if 0 then 1/0 else 4", 4);
    }

    // "< and = 1 or 0": beside one another, and at the ends.
    private static void lessAndEqual() {
        int[][] pairs = {{4, 5}, {5, 5}, {6, 5}, {-1, 0}, {0, -1}, {LEAST, MOST}, {MOST, LEAST}, {LEAST, LEAST},
            {LEAST, LEAST + 1}, {MOST - 1, MOST}};
        for (int[] it : pairs) {
            says("f<n", it[0], it[1], 0, it[0] < it[1] ? 1 : 0);
            says("f=n", it[0], it[1], 0, it[0] == it[1] ? 1 : 0);
        }
    }

    // "if: what isn't 0".
    private static void ifTakesWhatIsNotZero() {
        for (int f : new int[] {LEAST, -2, -1, 0, 1, 2, MOST}) {
            says("if f then 11 else 22", f, 0, 0, f == 0 ? 22 : 11);
        }
        says("if f*n then 11 else 22", 1 << 16, 1 << 16, 0, 22);
    }

    // "at the TOKEN's first byte (of the end at the length)".
    private static void theEndIsAtTheLength() {
        faulty("1+", 1, 2);
        faulty("1+ ", 1, 3);
        faulty("1+  ", 1, 4);
        faulty("1  +  then", 1, 6);
        faulty("   xyz", 1, 3);
        faulty("1 +   123456 ", 2, 6);
        faulty("if 1 then 2 ", 1, 12);
        faulty(" ".repeat(199) + "+", 1, 199);
        faulty(" ".repeat(199) + "-", 1, 200);
        faulty(" ".repeat(200), 1, 200);
    }

    // "FAULTS, the first as TOKENS are come to".
    private static void theFirstFaultCounts() {
        faulty("# 100000", 1, 0);
        faulty("100000 #", 2, 0);
        faulty("1 + 100000 + #", 2, 4);
        faulty("1 + # + 100000", 1, 4);
        faulty("1 2 3", 1, 2);
        faulty("-".repeat(11) + "#", 3, 10);
        faulty("-".repeat(10) + "#", 1, 10);
        faulty("-".repeat(10) + "100000", 2, 10);
        faulty("100000" + "+1".repeat(60), 2, 0);
        faulty("1" + "+1".repeat(30) + "#", 3, 60);
        faulty("1" + "+1".repeat(28) + "+#" + "+1".repeat(10), 1, 58);
    }

    // "3 the 61st TOKEN".
    private static void sixtyTokens() {
        says("1" + "+1".repeat(29), 30);
        says("-1" + "+1".repeat(29), 28);
        faulty("1" + "+1".repeat(30), 3, 60);
        faulty("-1" + "+1".repeat(29) + "+1", 3, 60);
        faulty("1" + "+1".repeat(29) + "+-1", 3, 60);
        says("  1" + " +  1".repeat(29) + "   ", 30);
        faulty("  1" + "  + 1".repeat(30), 3, 152);
        faulty("1+".repeat(30), 1, 60);
        faulty("1+".repeat(30) + "1", 3, 60);
        says("99999" + "%99999".repeat(29), 0);
    }

    // The same: brackets, words and numbers of many digits are one each.
    private static void tokensOfAllKindsCount() {
        String part = "(12345)+";
        says(part.repeat(14) + "f+n", 14 * 12345 + 7 + 8);
        says(part.repeat(14) + "f--n", 14 * 12345 + 7 + 8);
        says(part.repeat(13) + "-(n-d)+1", 13 * 12345 + 2);
        faulty(part.repeat(14) + "(f+n)", 3, 116);
        faulty(part.repeat(14) + "f-n*1", 3, 116);
        faulty(part.repeat(15) + "1", 3, 120);
        String ifs = "(if 1 then 2 else 3)+";
        says(ifs.repeat(6) + "1+1+1", 15);
        says(ifs.repeat(6) + "1+-1+1", 13);
        faulty(ifs.repeat(6) + "1+1+1+1", 3, 132);
        faulty(ifs.repeat(6) + "1+(if 1 then 2", 3, 139);
        faulty(ifs.repeat(6) + "-1+1+1+1", 3, 132);
    }

    // "3 .. the 11th of ( - if that are open around one another": ten of each kind, and eleven.
    private static void tenOpen() {
        for (int count = 8; count <= 12; count++) {
            if (count <= 10) {
                says("(".repeat(count) + "5" + ")".repeat(count), 5);
                says("-".repeat(count) + "5", count % 2 == 0 ? 5 : -5);
                says("if 0 then 1 else ".repeat(count) + "5", 5);
            } else {
                faulty("(".repeat(count) + "5" + ")".repeat(count), 3, 10);
                faulty("-".repeat(count) + "5", 3, 10);
                faulty("if 0 then 1 else ".repeat(10) + "if 0", 3, 170);
            }
        }
        faulty("if ".repeat(10) + "1", 1, 31);
        faulty("if ".repeat(11) + "1", 3, 30);
        faulty("(".repeat(10), 1, 10);
        faulty("-".repeat(10), 1, 10);
        faulty("(".repeat(11), 3, 10);
    }

    // The same: they count together.
    private static void openOfAllKindsTogether() {
        String open = "if(-(-(-(";
        says(open + "-1)))) then 1 else 2", 1);
        says(open + "--1)))) then 1 else 2", 1);
        faulty(open + "---1)))) then 1 else 2", 3, 11);
        faulty(open + "--(1))))) then 1 else 2", 3, 11);
        says(open + "(if 1 then 2 else 3))))) then 1 else 2", 1);
        faulty(open + "(if -1 then 2 else 3))))) then 1 else 2", 3, 13);
        faulty(open + "-(if 1 then 2 else 3))))) then 1 else 2", 3, 11);
    }

    // "(if to the end of its last E": through its then and its else, and no further.
    private static void anIfIsOpenToTheEndOfItsLastE() {
        says("if " + "-".repeat(9) + "1 then 2 else 3", 2);
        faulty("if " + "-".repeat(10) + "1 then 2 else 3", 3, 12);
        says("if 1 then " + "-".repeat(9) + "1 else 3", -1);
        faulty("if 1 then " + "-".repeat(10) + "1 else 3", 3, 19);
        says("if 0 then 1 else " + "-".repeat(9) + "1", -1);
        faulty("if 0 then 1 else " + "-".repeat(10) + "1", 3, 26);
        says("(if 1 then 2 else 3)+" + "-".repeat(10) + "1", 3);
        faulty("(if 1 then 2 else 3)+" + "-".repeat(11) + "1", 3, 31);
        says("if (if 1 then 2 else 3) then " + "-".repeat(9) + "1 else 4", -1);
    }

    // "- to that of its U)".
    private static void aMinusIsOpenToTheEndOfItsU() {
        says("-1" + "+" + "-".repeat(10) + "1", 0);
        says("-1*" + "-".repeat(10) + "1", -1);
        says("-(1)*" + "-".repeat(10) + "1", -1);
        says("-".repeat(10) + "1*" + "-".repeat(10) + "1", 1);
        says("-1<" + "-".repeat(10) + "1", 1);
        faulty("-(" + "-".repeat(9) + "1)", 3, 10);
        says("-(" + "-".repeat(8) + "1)", -1);
        says("-(1+" + "-".repeat(8) + "1)", -2);
        faulty("-(1+" + "-".repeat(9) + "1)", 3, 12);
    }

    // The same: a bracket that has ended is open no more.
    private static void aBracketIsOpenToItsEnd() {
        says("(1)+".repeat(11) + "1", 12);
        says("(".repeat(9) + "(1)+(2)" + ")".repeat(9), 3);
        says("(".repeat(10) + "1" + ")".repeat(10) + "+" + "(".repeat(10) + "1" + ")".repeat(10), 2);
        faulty("(".repeat(9) + "(1)+((2))" + ")".repeat(9), 3, 14);
        says("(1)+" + "(".repeat(10) + "1" + ")".repeat(10), 2);
        faulty("(1)+" + "(".repeat(11) + "1" + ")".repeat(11), 3, 14);
    }

    // The same: a - between two numbers is of an S, not of a U.
    private static void aMinusBetweenTwoIsNotOpen() {
        says("1" + "-1".repeat(29), -28);
        says("(".repeat(10) + "3-1-1" + ")".repeat(10), 1);
        says("9-" + "-".repeat(10) + "1", 8);
        faulty("9-" + "-".repeat(11) + "1", 3, 12);
    }

    // "What a RULE says of f, n, d .. 0 if there is none such."
    private static void saysTakesARule() {
        Scene two = new Scene(DUE, x -> {
            Texts.rule(x, "5", 0);
            Texts.rule(x, "5", 399);
        });
        two.takes("says(rule, 1, 1, 1)", 0, 1, (x, rule) -> x.says(rule, 1, 1, 1), 5, 0);
        new Scene(DUE, x -> { }).refuses("says(0, 1, 1, 1) without rules", x -> x.says(0, 1, 1, 1), 0);
        Scene eight = new Scene(DUE, x -> {
            for (int i = 0; i < 8; i++) {
                Texts.rule(x, "f+" + i, 0);
            }
        });
        for (int i = 0; i < 8; i++) {
            int rule = i;
            eight.answers("rule " + i, x -> x.says(rule, 100, 1, 1), 100 + rule);
        }
        eight.answers("there is no rule 8", x -> x.says(8, 100, 1, 1), 0);
    }

    // "f, n, d (any numbers)".
    private static void saysTakesAnyNumbers() {
        for (int value : new int[] {LEAST, LEAST + 1, -1, 0, 1, 400, MOST - 1, MOST}) {
            says("f", value, 1, 2, value);
            says("n", 1, value, 2, value);
            says("d", 1, 2, value, value);
        }
    }
}
