/**
 * The boundary cases of promises 23 (feed), 24 (end), 25 (rule) and 26 (fault). The comment ahead of
 * each test is the sentence that it holds the class to.
 */
public final class TapeBoundsTest {
    private static final Due DUE = new Due();
    private static final Scene BUSY = new Scene(DUE, Scenes::busy);
    private static final Scene EMPTY = new Scene(DUE, x -> { });
    private static final int BLANKS = 0x20202020;

    public static void main(String[] args) {
        twentyBytesComeBehindTheTape();
        theHighestOfAFirst();
        bytesAreAllEightBits();
        noMoreThanTwoHundred();
        endTakesNoMoreThanItHas();
        endTakesZeroAndOn();
        theFirstBytesAlone();
        feedComesBehindTheEnd();
        theTapeIsEmptyThen();
        ruleTakesADay();
        thereAreEightRules();
        aFaultIsNoRule();
        anEmptyTapeHasAFault();
        twoHundredBytesAreARule();
        faultTellsTwoThings();
        faultIsNoneAheadOfAny();
        faultIsOfTheLatestText();
        eachTextIsReadAnew();
        DUE.finish();
    }

    private static Scene tape(int count) {
        return EMPTY.then(x -> {
            for (int i = 0; i < count; i += 20) {
                x.feed(0x312B312B, 0x312B312B, 0x312B312B, 0x312B312B, 0x312B312B);
            }
            x.end(count);
        });
    }

    private static int feedBlanks(SmallHarbour x) {
        return x.feed(BLANKS, BLANKS, BLANKS, BLANKS, BLANKS);
    }

    // "Twenty bytes come behind the tape ..: how many it has."
    private static void twentyBytesComeBehindTheTape() {
        for (int count : new int[] {0, 1, 19, 20, 21, 179, 180}) {
            tape(count).answers("feed behind " + count, x -> feedBlanks(x), count + 20);
            tape(count).then(x -> feedBlanks(x)).answers("it has so many", x -> x.about(7), count + 20);
        }
    }

    // "the highest of a first": each byte at its place, by the place of the fault that it is.
    private static void theHighestOfAFirst() {
        for (int at = 0; at < 20; at++) {
            int place = at;
            Scene one = EMPTY.then(x -> {
                int[] words = {BLANKS, BLANKS, BLANKS, BLANKS, BLANKS};
                int shift = 24 - 8 * (place % 4);
                words[place / 4] = BLANKS & ~(255 << shift) | '#' << shift;
                x.feed(words[0], words[1], words[2], words[3], words[4]);
                x.rule(0);
            });
            one.answers("the place of byte " + place, x -> x.fault(1), place);
        }
        Scene digits = EMPTY.then(x -> {
            x.feed(0x31322B33, 0x34352B36, 0x37382B39, 0x30312B32, 0x33342B35);
            x.rule(0);
        });
        digits.answers("12+345+678+901+234+5", x -> x.says(0, 0, 0, 0), 12 + 345 + 678 + 901 + 234 + 5);
    }

    // "Twenty bytes": of all values, those above 127 too.
    private static void bytesAreAllEightBits() {
        Scene high = EMPTY.then(x -> {
            x.feed(0x20202031, 0xA0202020, BLANKS, BLANKS, BLANKS);
            x.rule(0);
        });
        high.answers("160 is no blank", x -> x.fault(1), 4);
        Scene digit = EMPTY.then(x -> {
            x.feed(0x312020B1, BLANKS, BLANKS, BLANKS, BLANKS);
            x.rule(0);
        });
        digit.answers("177 is no digit", x -> x.fault(1), 3);
        Scene all = EMPTY.then(x -> x.feed(-1, -1, -1, -1, -1));
        all.answers("255 is a byte", x -> x.about(7), 20);
        all.then(x -> x.rule(0)).answers("255 is no token", x -> x.fault(1), 0);
    }

    // "NONE, and none come, if there would be more than 200."
    private static void noMoreThanTwoHundred() {
        tape(179).answers("199", x -> feedBlanks(x), 199);
        tape(180).answers("200", x -> feedBlanks(x), 200);
        tape(181).refuses("201", x -> feedBlanks(x), -1);
        tape(182).refuses("202", x -> feedBlanks(x), -1);
        tape(199).refuses("219", x -> feedBlanks(x), -1);
        tape(200).refuses("220", x -> feedBlanks(x), -1);
        tape(200).then(x -> x.end(180)).answers("200 again", x -> feedBlanks(x), 200);
    }

    // "n. NONE, and nothing is done, if it has not so many".
    private static void endTakesNoMoreThanItHas() {
        for (int count : new int[] {1, 2, 20, 199, 200}) {
            tape(count).answers("one less than all " + count, x -> x.end(count - 1), count - 1);
            tape(count).answers("all " + count, x -> x.end(count), count);
            tape(count).refuses("one more than " + count, x -> x.end(count + 1), -1);
            tape(count).refuses("far more than " + count, x -> x.end(Integer.MAX_VALUE), -1);
        }
        EMPTY.answers("end(0) of none", x -> x.end(0), 0);
        EMPTY.refuses("end(1) of none", x -> x.end(1), -1);
        BUSY.refuses("end(4) of three", x -> x.end(4), -1);
        BUSY.answers("end(3) of three", x -> x.end(3), 3);
    }

    // ".. or n is below 0".
    private static void endTakesZeroAndOn() {
        for (int n : new int[] {-1, -2, -20, Integer.MIN_VALUE}) {
            BUSY.refuses("end(" + n + ")", x -> x.end(n), -1);
            EMPTY.refuses("end(" + n + ") of none", x -> x.end(n), -1);
        }
        BUSY.answers("end(0)", x -> x.end(0), 0);
        BUSY.then(x -> x.end(0)).answers("none is left", x -> x.about(7), 0);
        BUSY.answers("end(1)", x -> x.end(1), 1);
    }

    // "The tape has its first n bytes alone".
    private static void theFirstBytesAlone() {
        String text = "1234+5";
        int[] values = {-1, 1, 12, 123, 1234, -1, 1239};
        for (int i = 0; i <= text.length(); i++) {
            int n = i;
            Scene cut = EMPTY.then(x -> {
                Texts.put(x, text);
                x.end(n);
            });
            cut.answers("how many, " + n, x -> x.about(7), n);
            cut.answers("a rule of the first " + n, x -> x.rule(0), values[n] < 0 ? -1 : 0);
            cut.then(x -> x.rule(0)).answers("what it says", x -> x.says(0, 0, 0, 0), Math.max(0, values[n]));
        }
    }

    // The same: what comes then comes behind those, and the bytes that were cut are gone.
    private static void feedComesBehindTheEnd() {
        Scene cut = EMPTY.then(x -> {
            Texts.put(x, "1234+5");
            x.end(2);
            x.feed(0x37202020, BLANKS, BLANKS, BLANKS, BLANKS);
        });
        cut.answers("how many", x -> x.about(7), 22);
        cut.then(x -> x.rule(0)).answers("127", x -> x.says(0, 0, 0, 0), 127);
    }

    // "The tape (empty then) is a RULE": read or faulty, it is empty then.
    private static void theTapeIsEmptyThen() {
        BUSY.answers("ahead of it", x -> x.about(7), 3);
        BUSY.then(x -> x.rule(0)).answers("a rule", x -> x.about(7), 0);
        Scene faulty = EMPTY.then(x -> Texts.put(x, "1+"));
        faulty.answers("ahead of it", x -> x.about(7), 2);
        faulty.then(x -> x.rule(0)).answers("a fault", x -> x.about(7), 0);
        faulty.then(x -> x.rule(0)).answers("and room for twenty", x -> feedBlanks(x), 20);
    }

    // "in force from a DAY on: its number. NONE: .. (the tape stays) no such DAY".
    private static void ruleTakesADay() {
        BUSY.takes("rule(day)", 0, 399, (x, day) -> x.rule(day), 2, -1);
        Scene faulty = BUSY.then(x -> {
            x.end(0);
            Texts.put(x, "2+100000");
        });
        faulty.then(x -> x.rule(0)).answers("rule(0) reads it", x -> x.fault(0), 2);
        faulty.then(x -> x.rule(399)).answers("rule(399) reads it", x -> x.fault(0), 2);
        faulty.refuses("rule(-1) of a faulty tape", x -> x.rule(-1), -1);
        faulty.refuses("rule(400) of a faulty tape", x -> x.rule(400), -1);
    }

    private static Scene rules(int count) {
        return EMPTY.then(x -> {
            for (int i = 0; i < count; i++) {
                Texts.rule(x, "n*" + (i + 1), 10 * i);
            }
            Texts.put(x, "f+1");
        });
    }

    // "RULES, up to 8"; "NONE: .. (the tape stays) .. or there are 8".
    private static void thereAreEightRules() {
        for (int i = 0; i < 8; i++) {
            int r = i;
            rules(i).answers("rule " + i, x -> x.rule(5), r);
            rules(i).then(x -> x.rule(5)).answers("rule " + i + " says", x -> x.says(r, 41, 0, 0), 42);
        }
        rules(8).refuses("the ninth", x -> x.rule(5), -1);
        rules(8).answers("there are eight", x -> x.about(6), 8);
        rules(8).answers("the eighth says", x -> x.says(7, 0, 3, 0), 24);
        Scene faulty = rules(8).then(x -> {
            x.end(0);
            Texts.put(x, "1+");
        });
        faulty.refuses("the ninth, faulty: it isn't read", x -> x.rule(5), -1);
    }

    // "NONE: it has a FAULT": then it is no rule, but it was read.
    private static void aFaultIsNoRule() {
        Scene faulty = rules(7).then(x -> {
            x.end(0);
            Texts.put(x, "1+");
        });
        faulty.answers("rule(5)", x -> x.rule(5), -1);
        Scene read = faulty.then(x -> x.rule(5));
        read.answers("there are seven", x -> x.about(6), 7);
        read.answers("its fault", x -> x.fault(0), 1);
        read.answers("its place", x -> x.fault(1), 2);
        read.answers("the seventh as it was", x -> x.says(6, 0, 1, 0), 7);
        read.answers("there is no eighth", x -> x.says(7, 5, 5, 5), 0);
        read.answers("the eighth", x -> Texts.rule(x, "8", 5), 7);
    }

    // "FAULTS ..: (of the end at the length)": of no bytes, and of blanks alone.
    private static void anEmptyTapeHasAFault() {
        EMPTY.answers("rule of none", x -> x.rule(0), -1);
        EMPTY.then(x -> x.rule(0)).answers("its fault", x -> x.fault(0), 1);
        EMPTY.then(x -> x.rule(0)).answers("its place", x -> x.fault(1), 0);
        for (int count : new int[] {1, 2, 20}) {
            Scene blanks = EMPTY.then(x -> {
                feedBlanks(x);
                x.end(count);
                x.rule(0);
            });
            blanks.answers("the fault of blanks", x -> x.fault(0), 1);
            blanks.answers("the place of " + count + " blanks", x -> x.fault(1), count);
        }
    }

    // "texts of up to 200 bytes": its last byte counts.
    private static void twoHundredBytesAreARule() {
        for (int length : new int[] {198, 199, 200}) {
            String text = " ".repeat(length - 1) + "7";
            EMPTY.answers("of " + length, x -> Texts.rule(x, text, 0), 0);
            EMPTY.then(x -> Texts.rule(x, text, 0)).answers("says", x -> x.says(0, 0, 0, 0), 7);
            String faulty = " ".repeat(length - 1) + "#";
            EMPTY.then(x -> Texts.rule(x, faulty, 0)).answers("the last byte", x -> x.fault(1), length - 1);
            String unended = " ".repeat(length - 2) + "1+";
            EMPTY.then(x -> Texts.rule(x, unended, 0)).answers("the end", x -> x.fault(1), length);
        }
        String zeros = "0".repeat(195) + "99999";
        EMPTY.then(x -> Texts.rule(x, zeros, 0)).answers("one number of 200 digits", x -> x.says(0, 0, 0, 0), 99999);
    }

    // "0 its FAULT (0 without), 1 its place (NONE without). NONE for others".
    private static void faultTellsTwoThings() {
        Scene faulty = EMPTY.then(x -> Texts.rule(x, "1 + 100000", 0));
        faulty.answers("its fault", x -> x.fault(0), 2);
        faulty.answers("its place", x -> x.fault(1), 4);
        Scene good = EMPTY.then(x -> Texts.rule(x, "1", 0));
        good.answers("without", x -> x.fault(0), 0);
        good.answers("its place, without", x -> x.fault(1), -1);
        for (int what : new int[] {-1, 2, 3, Integer.MIN_VALUE, Integer.MAX_VALUE}) {
            faulty.refuses("fault(" + what + ")", x -> x.fault(what), -1);
            good.refuses("fault(" + what + ") without", x -> x.fault(what), -1);
        }
    }

    // "NONE .. ahead of any": a rule() that didn't read is none.
    private static void faultIsNoneAheadOfAny() {
        for (int what = -1; what <= 2; what++) {
            int it = what;
            EMPTY.answers("fault(" + what + ")", x -> x.fault(it), -1);
            Scene unread = EMPTY.then(x -> {
                Texts.put(x, "1+");
                x.rule(400);
                x.rule(-1);
            });
            unread.answers("fault(" + what + ") behind no such day", x -> x.fault(it), -1);
        }
    }

    // "Of the latest text that was read".
    private static void faultIsOfTheLatestText() {
        Scene two = EMPTY.then(x -> {
            Texts.rule(x, "1+", 0);
            Texts.rule(x, "100000", 0);
        });
        two.answers("the later one's fault", x -> x.fault(0), 2);
        two.answers("the later one's place", x -> x.fault(1), 0);
        two.then(x -> Texts.put(x, "#")).answers("a tape that isn't read", x -> x.fault(0), 2);
        two.then(x -> Texts.rule(x, "1", 0)).answers("one without", x -> x.fault(0), 0);
        two.then(x -> Texts.rule(x, "1", 0)).answers("its place", x -> x.fault(1), -1);
        Scene refused = two.then(x -> {
            Texts.put(x, "1");
            x.rule(400);
        });
        refused.answers("one that was refused by its day", x -> x.fault(0), 2);
        Scene ninth = rules(8).then(x -> {
            x.end(0);
            Texts.put(x, "#");
            x.rule(0);
        });
        ninth.answers("one that was refused as the ninth", x -> x.fault(0), 0);
    }

    // The same: the tokens, and what is open, of a text ahead of it don't count.
    private static void eachTextIsReadAnew() {
        String tokens = "-1" + "+1".repeat(29);
        String open = "(".repeat(10) + "f" + ")".repeat(10);
        for (String first : new String[] {tokens, open, "(".repeat(10) + "1+", "1" + "+1".repeat(30), "-".repeat(11)}) {
            Scene read = EMPTY.then(x -> Texts.rule(x, first, 0));
            for (String text : new String[] {tokens, open, "n"}) {
                Scene two = read.then(x -> Texts.rule(x, text, 0));
                int due = text.equals("n") ? 5 : text.equals(open) ? 3 : 28;
                two.answers(text + " behind " + first, x -> x.fault(0), 0);
                two.answers(text + " says, behind " + first, x -> x.says(x.about(6) - 1, 3, 5, 7), due);
            }
            read.then(x -> Texts.rule(x, "1+", 0)).answers("1+ behind " + first, x -> x.fault(1), 2);
        }
    }
}
