/** Promises 23 to 28 (feed, end, rule, fault, says, owes). */
public final class RulesTest {
    private static final Due DUE = new Due();

    public static void main(String[] args) {
        feedFillsTheTape();
        endCutsTheTape();
        ruleTakesTheTape();
        faultTellsOfTheLatestText();
        rulesSay();
        faultsOfPlace();
        faultsOfNumbers();
        faultsOfTooMany();
        theLowestFaultOfOneToken();
        eachTextIsReadAnew();
        billsGoByTheRuleInForce();
        owesGoesRound();
        DUE.finish();
    }

    private static void feedFillsTheTape() {
        SmallHarbour x = new SmallHarbour();
        for (int i = 1; i <= 10; i++) {
            DUE.is("feed", x.feed(0, 0, 0, 0, 0), 20 * i);
        }
        DUE.is("the 11th feed", x.feed(0, 0, 0, 0, 0), -1);
        DUE.is("about(7)", x.about(7), 200);
        x.end(181);
        DUE.is("up to 201", x.feed(0, 0, 0, 0, 0), -1);
        DUE.is("about(7)", x.about(7), 181);
        x.end(180);
        DUE.is("up to 200", x.feed(0, 0, 0, 0, 0), 200);

        SmallHarbour y = new SmallHarbour();
        y.feed(0x31323334, 0x352B3020, 0x2B202020, 0x20202020, 0x34333231);
        DUE.is("12345+0 +       4321", y.rule(0), 0);
        DUE.is("the highest of a first", y.says(0, 0, 0, 0), 16666);
        y.feed(0xB1202020, 0x20202020, 0x20202020, 0x20202020, 0x20202020);
        DUE.is("a byte above 127", y.rule(0), -1);
        DUE.is("its place", y.fault(1), 0);
    }

    private static void endCutsTheTape() {
        SmallHarbour x = new SmallHarbour();
        DUE.is("end(1) of none", x.end(1), -1);
        DUE.is("end(0) of none", x.end(0), 0);
        Texts.put(x, "12");
        DUE.is("end(3) of two", x.end(3), -1);
        DUE.is("end(-1)", x.end(-1), -1);
        DUE.is("about(7)", x.about(7), 2);
        DUE.is("end(2)", x.end(2), 2);
        DUE.is("end(1)", x.end(1), 1);
        x.feed(0x33202020, 0x20202020, 0x20202020, 0x20202020, 0x20202020);
        DUE.is("about(7)", x.about(7), 21);
        x.rule(0);
        DUE.is("13: the 2 is gone", x.says(0, 0, 0, 0), 13);
    }

    private static void ruleTakesTheTape() {
        SmallHarbour x = new SmallHarbour();
        Texts.put(x, "1");
        DUE.is("no such day", x.rule(-1), -1);
        DUE.is("no such day", x.rule(400), -1);
        DUE.is("the tape stays", x.about(7), 1);
        DUE.is("nothing was read", x.fault(0), -1);
        DUE.is("rule(399)", x.rule(399), 0);
        DUE.is("the tape is empty", x.about(7), 0);
        DUE.is("about(6)", x.about(6), 1);
        DUE.is("a fault", Texts.rule(x, "1+", 0), -1);
        DUE.is("the tape is empty", x.about(7), 0);
        DUE.is("about(6)", x.about(6), 1);
        for (int i = 1; i < 8; i++) {
            DUE.is("rule " + i, Texts.rule(x, "" + i * 11, 0), i);
        }
        DUE.is("the 9th rule", Texts.rule(x, "+", 0), -1);
        DUE.is("the tape stays", x.about(7), 1);
        DUE.is("nothing was read", x.fault(0), 0);
        DUE.is("says(7)", x.says(7, 0, 0, 0), 77);
        DUE.is("says(8)", x.says(8, 0, 0, 0), 0);
        DUE.is("says(-1)", x.says(-1, 0, 0, 0), 0);
        DUE.is("says(0)", x.says(0, 0, 0, 0), 1);
    }

    private static void faultTellsOfTheLatestText() {
        SmallHarbour x = new SmallHarbour();
        DUE.is("ahead of any", x.fault(0), -1);
        DUE.is("ahead of any", x.fault(1), -1);
        Texts.rule(x, "1 1", 0);
        DUE.is("fault(0)", x.fault(0), 1);
        DUE.is("fault(1)", x.fault(1), 2);
        DUE.is("fault(2)", x.fault(2), -1);
        DUE.is("fault(-1)", x.fault(-1), -1);
        Texts.rule(x, "1", 0);
        DUE.is("fault(0)", x.fault(0), 0);
        DUE.is("fault(1)", x.fault(1), -1);
    }

    private static void says(String text, int f, int n, int d, int want) {
        SmallHarbour x = new SmallHarbour();
        DUE.is("rule of " + text, Texts.rule(x, text, 0), 0);
        DUE.is("fault of " + text, x.fault(0), 0);
        DUE.is(text, x.says(0, f, n, d), want);
    }

    private static void rulesSay() {
        int least = Integer.MIN_VALUE;
        says("f", 7, 8, 9, 7);
        says("n", 7, 8, 9, 8);
        says("d", 7, 8, 9, 9);
        says("  f  ", least, 8, 9, least);
        says("99999", 0, 0, 0, 99999);
        says("0000000000000000000000000000042", 0, 0, 0, 42);
        says("10-3-2", 0, 0, 0, 5);
        says("100/7/2", 0, 0, 0, 7);
        says("100%7*3", 0, 0, 0, 6);
        says("2+3*4", 0, 0, 0, 14);
        says("(2+3)*4", 0, 0, 0, 20);
        says("-2*3", 0, 0, 0, -6);
        says("2*-3", 0, 0, 0, -6);
        says("2--3", 0, 0, 0, 5);
        says("- - 2", 0, 0, 0, 2);
        says("-7/2", 0, 0, 0, -3);
        says("-7%3", 0, 0, 0, -1);
        says("5/0", 0, 0, 0, 0);
        says("5%(n-n)", 0, 3, 0, 0);
        says("f/n", least, -1, 0, least);
        says("f%n", least, -1, 0, 0);
        says("-f", least, 0, 0, least);
        says("f+n", Integer.MAX_VALUE, 1, 0, least);
        says("f*n", 99999, 99999, 0, 99999 * 99999);
        says("f<n", 1, 2, 0, 1);
        says("f<n", 2, 2, 0, 0);
        says("f=n", 2, 2, 0, 1);
        says("f=n", 2, 3, 0, 0);
        says("f<n", least, Integer.MAX_VALUE, 0, 1);
        says("1+1=2", 0, 0, 0, 1);
        says("(1<2)<2", 0, 0, 0, 1);
        says("if f then n else d", 0, 5, 6, 6);
        says("if f then n else d", -1, 5, 6, 5);
        says("if f<20 then n*3 else n+4", 19, 4, 0, 12);
        says("if 0 then 1 else 2+3", 0, 0, 0, 5);
        says("if if f then 0 else 1 then 2 else 3", 0, 0, 0, 2);
        says("if 1 then if 0 then 2 else 3 else 4", 0, 0, 0, 3);
        says("if 0 then 1 else if 1 then 2 else 3", 0, 0, 0, 2);
        says("(if f then 1 else 2)*10", 0, 0, 0, 20);
        says("if(f)then(1)else(2)", 1, 0, 0, 1);
        says("if 1then 2else 3", 0, 0, 0, 2);
        says("1+(if 1 then 2 else 3)<4", 0, 0, 0, 1);
    }

    private static void faulty(String text, int fault, int place) {
        SmallHarbour x = new SmallHarbour();
        DUE.is("rule of " + text, Texts.rule(x, text, 0), -1);
        DUE.is("fault of " + text, x.fault(0), fault);
        DUE.is("place of " + text, x.fault(1), place);
    }

    private static void faultsOfPlace() {
        faulty("", 1, 0);
        faulty("   ", 1, 3);
        faulty("+1", 1, 0);
        faulty("1+", 1, 2);
        faulty("1+ ", 1, 3);
        faulty("1 2", 1, 2);
        faulty("f2", 1, 1);
        faulty("2f", 1, 1);
        faulty("fn", 1, 0);
        faulty("fa", 1, 0);
        faulty("fz", 1, 0);
        faulty("fA", 1, 0);
        faulty("fZ", 1, 0);
        faulty("f@", 1, 1);
        faulty("f[", 1, 1);
        faulty("f`", 1, 1);
        faulty("f{", 1, 1);
        faulty("1/x", 1, 2);
        faulty("1:", 1, 1);
        faulty("-x1", 1, 1);
        faulty("(x 1)", 1, 1);
        faulty("F", 1, 0);
        faulty("1+If", 1, 2);
        faulty("thenelse", 1, 0);
        faulty("if 1 xthen 2 else 3", 1, 5);
        faulty("zzzzf", 1, 0);
        faulty("zzif 1 then 2 else 3", 1, 0);
        faulty("if 1 the 2 else 3", 1, 5);
        faulty("if 1 Then 2 else 3", 1, 5);
        faulty("if 1 then 2 elsE 3", 1, 12);
        faulty("iff 1 then 2 else 3", 1, 0);
        faulty("1#", 1, 1);
        faulty("1\t", 1, 1);
        faulty("1\u0000", 1, 1);
        faulty("\u00e6", 1, 0);
        faulty("1>2", 1, 1);
        faulty("1<2=3", 1, 3);
        faulty("1<=2", 1, 2);
        faulty("1+if 1 then 2 else 3", 1, 2);
        faulty("-if 1 then 2 else 3", 1, 1);
        faulty("1<if 1 then 2 else 3", 1, 2);
        faulty("(1", 1, 2);
        faulty("()", 1, 1);
        faulty("1)", 1, 1);
        faulty("(1))", 1, 3);
        faulty("(1 then", 1, 3);
        faulty("(1 2", 1, 3);
        faulty("1(2)", 1, 1);
        faulty("if 1 else 2", 1, 5);
        faulty("if 1 then 2", 1, 11);
        faulty("if 1 then 2 then", 1, 12);
        faulty("if 1 then 2 else", 1, 16);
        faulty("if 1 then 2 else 3 else 4", 1, 19);
        faulty("if then", 1, 3);
        faulty("1 then", 1, 2);
        faulty("if (1 then 2) else 3", 1, 6);
        faulty("1**2", 1, 2);
        faulty("1 # 100000", 1, 2);
    }

    private static void faultsOfNumbers() {
        faulty("100000", 2, 0);
        faulty("1+ 100000", 2, 3);
        faulty("4294967296", 2, 0);
        faulty("1" + "0".repeat(198), 2, 0);
        faulty("18446744073709551617", 2, 0);
        faulty("100000 #", 2, 0);
        faulty("100000+", 2, 0);
    }

    private static void faultsOfTooMany() {
        says("-1" + "+1".repeat(29), 0, 0, 0, 28);
        faulty("1" + "+1".repeat(30), 3, 60);
        faulty("-1" + "+1".repeat(29) + "+", 3, 60);
        faulty("1" + " + 1".repeat(30), 3, 120);
        faulty("1+".repeat(30), 1, 60);
        says("-".repeat(10) + "5", 0, 0, 0, 5);
        faulty("-".repeat(11) + "5", 3, 10);
        says("(".repeat(10) + "5" + ")".repeat(10), 0, 0, 0, 5);
        faulty("(".repeat(11) + "5" + ")".repeat(11), 3, 10);
        says("if 0 then 1 else ".repeat(10) + "9", 0, 0, 0, 9);
        faulty("if 0 then 1 else ".repeat(10) + "-9", 3, 170);
        faulty("if 0 then 1 else ".repeat(10) + "(9)", 3, 170);
        faulty("if 0 then 1 else ".repeat(10) + "if", 3, 170);
        says("if ".repeat(7) + "1" + " then 1 else 0".repeat(7), 0, 0, 0, 1);
        faulty("(if -".repeat(3) + "1", 1, 16);
        faulty("(if -".repeat(3) + "(-1", 3, 16);
        faulty("(".repeat(10) + "-1", 3, 10);
        String ifs = "(if 1 then 1 else 1)" + "+(if 1 then 1 else 1)".repeat(4);
        says("(".repeat(5) + ifs + ")".repeat(5), 0, 0, 0, 5);
        says("(".repeat(9) + "-1" + ")".repeat(9), 0, 0, 0, -1);
        says("(".repeat(9) + "(1)+(2)+-3--4" + ")".repeat(9), 0, 0, 0, 4);
        says("(".repeat(10) + "1-2" + ")".repeat(10), 0, 0, 0, -1);
        says("-(-(-(-(-1))))*-1", 0, 0, 0, 1);
        faulty("-(-(-(-(-(-1)))))*-1", 3, 10);
        says("(".repeat(8) + "if 1 then -1 else -2" + ")".repeat(8), 0, 0, 0, -1);
        faulty("(".repeat(9) + "if 1 then -1 else -2" + ")".repeat(9), 3, 19);
        says("-".repeat(9) + "(1)*" + "-".repeat(9) + "(1)", 0, 0, 0, 1);
        says("(".repeat(9) + "if 1 then 2 else 3" + ")".repeat(9), 0, 0, 0, 2);
    }

    // Of a token with more than one fault: the first as the document numbers them.
    private static void theLowestFaultOfOneToken() {
        faulty("1 100000", 1, 2);
        faulty("-1" + "+1".repeat(29) + " 1", 1, 61);
        faulty("-1" + "+1".repeat(29) + "#", 1, 60);
        faulty("1" + "+1".repeat(29) + "+100000", 2, 60);
        faulty("(".repeat(10) + "1(", 1, 11);
    }

    private static void eachTextIsReadAnew() {
        SmallHarbour x = new SmallHarbour();
        Texts.rule(x, "(".repeat(9) + "1+", 0);
        DUE.is("fault(1)", x.fault(1), 11);
        DUE.is("ten open", Texts.rule(x, "(".repeat(10) + "f" + ")".repeat(10), 0), 0);
        Texts.rule(x, "1" + "+1".repeat(29), 0);
        DUE.is("fault(0)", x.fault(0), 0);
        DUE.is("59 tokens", x.says(1, 0, 0, 0), 30);
        Texts.rule(x, "-1" + "+1".repeat(29), 0);
        DUE.is("60 tokens", x.says(2, 0, 0, 0), 28);
        Texts.rule(x, "n", 0);
        DUE.is("says(3)", x.says(3, 1, 2, 3), 2);
        DUE.is("says(0)", x.says(0, 1, 2, 3), 1);
    }

    private static void billsGoByTheRuleInForce() {
        SmallHarbour x = new SmallHarbour();
        x.berth(100, 5);
        x.boat(30, 0, 1, -1);
        x.stay(0, 2, 6);
        x.stay(0, 10, 11);
        x.stay(0, 9, 10);
        x.stay(0, 20, 25);
        DUE.is("without a rule", x.stayOf(0, 4), 0);
        Texts.rule(x, "n", 10);
        DUE.is("ahead of its day", x.stayOf(0, 4), 0);
        DUE.is("on its day", x.stayOf(1, 4), 1);
        DUE.is("a day ahead of it", x.stayOf(2, 4), 0);
        DUE.is("behind its day", x.stayOf(3, 4), 5);
        Texts.rule(x, "f", 0);
        DUE.is("told later, of an earlier day", x.stayOf(3, 4), 5);
        DUE.is("from day 0 on", x.stayOf(0, 4), 30);
        Texts.rule(x, "d*100", 10);
        DUE.is("of one day the later told", x.stayOf(3, 4), 2000);
        Texts.rule(x, "-1", 0);
        DUE.is("of one day the later told", x.stayOf(0, 4), -1);
        DUE.is("owes(0)", x.owes(0), -1 + 1000 - 1 + 2000);
    }

    private static void owesGoesRound() {
        SmallHarbour x = new SmallHarbour();
        x.berth(100, 5);
        x.berth(100, 5);
        x.boat(30, 0, 1, -1);
        x.boat(30, 0, 1, -1);
        x.boat(30, 0, 1, -1);
        x.stay(0, 0, 1);
        x.stay(1, 0, 2);
        x.stay(0, 1, 2);
        x.stay(0, 2, 3);
        Texts.rule(x, "99999*10000+n", 0);
        DUE.is("owes(0)", x.owes(0), (99999 * 10000 + 1) * 3);
        DUE.is("owes(1)", x.owes(1), 99999 * 10000 + 2);
        DUE.is("owes(2)", x.owes(2), 0);
        DUE.is("owes(3)", x.owes(3), 0);
        DUE.is("owes(-1)", x.owes(-1), 0);
    }
}
