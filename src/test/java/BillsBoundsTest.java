/**
 * The boundary cases of promises 28 (owes), 1 (a new object) and 29 (about), and of the RULES in force
 * and the BILLS in the terms. The comment ahead of each test is the sentence that it holds the class
 * to.
 */
public final class BillsBoundsTest {
    private static final Due DUE = new Due();
    private static final Scene BUSY = new Scene(DUE, Scenes::busy);
    private static final Scene EMPTY = new Scene(DUE, x -> { });

    // A visitor of length 30 with stays that begin on the days 0, 9, 10, 11 and 399.
    private static final Scene STAYS = new Scene(DUE, x -> {
        x.berth(100, 5);
        x.boat(30, 0, 1, -1);
        x.boat(31, 0, 1, -1);
        x.stay(0, 0, 2);
        x.stay(0, 9, 10);
        x.stay(0, 10, 11);
        x.stay(0, 11, 15);
        x.stay(0, 399, 400);
    });

    public static void main(String[] args) {
        noBillWithoutARule();
        aRuleIsInForceFromItsDayOn();
        theLatestDayNotBehind();
        ofOneDayTheLaterTold();
        theRuleOfItsFirstDay();
        aBillOfLengthNightsAndDay();
        billsAreOfTheRulesOfNow();
        billsOfASplitStay();
        owesTakesABoat();
        owesAllOfABoatsStays();
        owesGoesRound();
        aNewObjectHasNothing();
        aNewObjectRefusesNumberZero();
        aNewObjectsLevelsAreZero();
        aboutTellsNineThings();
        aboutCountsTheTapeAndTheMoves();
        questionsChangeNothing();
        DUE.finish();
    }

    private static void billsAre(Scene scene, String name, int... bills) {
        for (int i = 0; i < bills.length; i++) {
            int s = i;
            scene.answers(name + ", bill of stay " + i, x -> x.stayOf(s, 4), bills[s]);
        }
    }

    // "what the rule in force on its first DAY says of it (0 without a rule)".
    private static void noBillWithoutARule() {
        billsAre(STAYS, "without a rule", 0, 0, 0, 0, 0);
        billsAre(STAYS.then(x -> Texts.rule(x, "7+", 0)), "with a faulty one", 0, 0, 0, 0, 0);
        billsAre(STAYS.then(x -> Texts.put(x, "7")), "on the tape alone", 0, 0, 0, 0, 0);
        billsAre(STAYS.then(x -> Texts.rule(x, "7", 399)), "from day 399 on", 0, 0, 0, 0, 7);
        billsAre(STAYS.then(x -> Texts.rule(x, "7", 0)), "from day 0 on", 7, 7, 7, 7, 7);
    }

    // "each in force from a DAY on".
    private static void aRuleIsInForceFromItsDayOn() {
        billsAre(STAYS.then(x -> Texts.rule(x, "7", 9)), "from day 9 on", 0, 7, 7, 7, 7);
        billsAre(STAYS.then(x -> Texts.rule(x, "7", 10)), "from day 10 on", 0, 0, 7, 7, 7);
        billsAre(STAYS.then(x -> Texts.rule(x, "7", 11)), "from day 11 on", 0, 0, 0, 7, 7);
        billsAre(STAYS.then(x -> Texts.rule(x, "7", 1)), "from day 1 on", 0, 7, 7, 7, 7);
    }

    // "(that of the latest DAY not behind": whichever was told first.
    private static void theLatestDayNotBehind() {
        Scene rising = STAYS.then(x -> {
            Texts.rule(x, "1", 0);
            Texts.rule(x, "2", 10);
            Texts.rule(x, "3", 11);
        });
        billsAre(rising, "told as they rise", 1, 1, 2, 3, 3);
        Scene falling = STAYS.then(x -> {
            Texts.rule(x, "3", 11);
            Texts.rule(x, "2", 10);
            Texts.rule(x, "1", 0);
        });
        billsAre(falling, "told as they fall", 1, 1, 2, 3, 3);
        Scene mixed = STAYS.then(x -> {
            Texts.rule(x, "2", 10);
            Texts.rule(x, "3", 11);
            Texts.rule(x, "1", 9);
        });
        billsAre(mixed, "told anyhow", 0, 1, 2, 3, 3);
    }

    // "of one DAY the later told)".
    private static void ofOneDayTheLaterTold() {
        Scene two = STAYS.then(x -> {
            Texts.rule(x, "1", 10);
            Texts.rule(x, "2", 10);
        });
        billsAre(two, "two of one day", 0, 0, 2, 2, 2);
        Scene between = STAYS.then(x -> {
            Texts.rule(x, "1", 10);
            Texts.rule(x, "5", 0);
            Texts.rule(x, "2", 10);
            Texts.rule(x, "6", 9);
        });
        billsAre(between, "with others between", 5, 6, 2, 2, 2);
        Scene eight = STAYS.then(x -> {
            for (int i = 0; i < 8; i++) {
                Texts.rule(x, "" + (i + 1), 10);
            }
        });
        billsAre(eight, "eight of one day", 0, 0, 8, 8, 8);
        Scene ninth = eight.then(x -> Texts.rule(x, "9", 10));
        billsAre(ninth, "the ninth was refused", 0, 0, 8, 8, 8);
    }

    // "the rule in force on its first DAY": not on its later nights.
    private static void theRuleOfItsFirstDay() {
        Scene scene = STAYS.then(x -> {
            Texts.rule(x, "n", 0);
            Texts.rule(x, "n*100", 1);
            Texts.rule(x, "n*1000", 12);
        });
        billsAre(scene, "one that comes into force on a later night", 2, 100, 100, 400, 1000);
    }

    // "f (LENGTH of the BOAT), n (nights), d (first DAY)".
    private static void aBillOfLengthNightsAndDay() {
        billsAre(STAYS.then(x -> Texts.rule(x, "f", 0)), "its length", 30, 30, 30, 30, 30);
        billsAre(STAYS.then(x -> Texts.rule(x, "n", 0)), "its nights", 2, 1, 1, 4, 1);
        billsAre(STAYS.then(x -> Texts.rule(x, "d", 0)), "its first day", 0, 9, 10, 11, 399);
        Scene all = new Scene(DUE, x -> {
            x.berth(400, 5);
            x.boat(400, 0, 1, -1);
            x.stay(0, 0, 400);
            Texts.rule(x, "f*n+d", 0);
        });
        billsAre(all, "all nights", 160000);
        billsAre(all.then(x -> x.leaves(0, 399)), "all but the last", 159600);
        billsAre(all.then(x -> x.leaves(0, 1)), "the first alone", 400);
    }

    // The same: a rule that is told later changes the bill of a stay that was there.
    private static void billsAreOfTheRulesOfNow() {
        Scene one = STAYS.then(x -> Texts.rule(x, "1", 0));
        billsAre(one, "one rule", 1, 1, 1, 1, 1);
        billsAre(one.then(x -> Texts.rule(x, "2", 10)), "one more", 1, 1, 2, 2, 2);
    }

    // The same: the nights from that day on are a stay of their own, with a bill of its own.
    private static void billsOfASplitStay() {
        Scene split = new Scene(DUE, x -> {
            x.berth(50, 5);
            x.boat(50, 0, 1, 0);
            x.boat(40, 0, 1, -1);
            x.away(0, 0, 100);
            x.stay(1, 10, 20);
            x.berth(50, 5);
            Texts.rule(x, "n", 0);
            Texts.rule(x, "n*100", 14);
        });
        billsAre(split, "whole", 10, -1);
        split.answers("whole, together", x -> x.owes(1), 10);
        billsAre(split.then(x -> x.home(0, 13)), "split at 13", 3, 7);
        billsAre(split.then(x -> x.home(0, 14)), "split at 14", 4, 600);
        split.then(x -> x.home(0, 14)).answers("split, together", x -> x.owes(1), 604);
        billsAre(split.then(x -> x.home(0, 10)), "moved whole", 10, -1);
    }

    // "0 if there is none such": no such boat, or no stays of it.
    private static void owesTakesABoat() {
        Scene scene = STAYS.then(x -> Texts.rule(x, "7", 0));
        scene.answers("owes(0)", x -> x.owes(0), 35);
        scene.answers("owes(1), which has no stay", x -> x.owes(1), 0);
        for (int boat : new int[] {-1, 2, 29, 30, Integer.MIN_VALUE, Integer.MAX_VALUE}) {
            scene.refuses("owes(" + boat + ")", x -> x.owes(boat), 0);
        }
        EMPTY.refuses("owes(0) without boats", x -> x.owes(0), 0);
        Scene last = new Scene(DUE, x -> {
            x.berth(50, 5);
            for (int i = 0; i < 30; i++) {
                x.boat(10, 0, 1, -1);
            }
            x.stay(29, 0, 3);
            Texts.rule(x, "n", 0);
        });
        last.answers("owes(29)", x -> x.owes(29), 3);
        last.answers("owes(28)", x -> x.owes(28), 0);
        last.answers("owes(30)", x -> x.owes(30), 0);
    }

    // "All BILLS of a BOAT's STAYS together": 40 of them, and none of another's.
    private static void owesAllOfABoatsStays() {
        Scene forty = new Scene(DUE, x -> {
            x.berth(50, 5);
            x.boat(10, 0, 1, -1);
            x.boat(10, 0, 1, -1);
            for (int i = 0; i < 40; i++) {
                x.stay(i == 0 || i == 39 ? 1 : 0, 2 * i, 2 * i + 1);
            }
            Texts.rule(x, "d+1", 0);
        });
        forty.answers("the first and the last", x -> x.owes(1), 1 + 79);
        forty.answers("those between", x -> x.owes(0), 40 * 40 - 80);
    }

    // "(going round)".
    private static void owesGoesRound() {
        Scene three = new Scene(DUE, x -> {
            x.berth(50, 5);
            x.boat(10, 0, 1, -1);
            x.stay(0, 0, 1);
            x.stay(0, 1, 2);
            x.stay(0, 2, 3);
        });
        Scene most = three.then(x -> Texts.rule(x, "32768*65535+32767", 0));
        most.answers("the largest bill", x -> x.stayOf(0, 4), Integer.MAX_VALUE);
        most.answers("three of them", x -> x.owes(0), Integer.MAX_VALUE * 3);
        Scene least = three.then(x -> Texts.rule(x, "32768*65536", 0));
        least.answers("the least bill", x -> x.stayOf(0, 4), Integer.MIN_VALUE);
        least.answers("three of them", x -> x.owes(0), Integer.MIN_VALUE);
        Scene over = three.then(x -> {
            Texts.rule(x, "32768*65535+32767", 0);
            Texts.rule(x, "1", 1);
            Texts.rule(x, "0", 2);
        });
        over.answers("the largest and one", x -> x.owes(0), Integer.MIN_VALUE);
        Scene just = three.then(x -> {
            Texts.rule(x, "32768*65535+32766", 0);
            Texts.rule(x, "1", 1);
            Texts.rule(x, "0", 2);
        });
        just.answers("one less", x -> x.owes(0), Integer.MAX_VALUE);
    }

    // "LEVELS 0, no BERTHS, BOATS, LIFTS, RULES, one LANE of 100."
    private static void aNewObjectHasNothing() {
        for (int what = 0; what <= 8; what++) {
            int it = what;
            EMPTY.answers("about(" + what + ")", x -> x.about(it), 0);
        }
        EMPTY.answers("its first berth", x -> x.berth(10, 0), 0);
        EMPTY.answers("its first boat", x -> x.boat(10, 0, 1, -1), 0);
        EMPTY.then(x -> x.boat(10, 0, 1, -1)).answers("its first lift", x -> x.lift(0, 0, 1), 0);
        EMPTY.answers("its first rule", x -> Texts.rule(x, "1", 0), 0);
        EMPTY.answers("its tape", x -> x.feed(0, 0, 0, 0, 0), 20);
        EMPTY.answers("its shed", x -> x.moves(), 0);
    }

    // The same: what is not there can't be asked for.
    private static void aNewObjectRefusesNumberZero() {
        EMPTY.refuses("boat with home 0", x -> x.boat(10, 0, 1, 0), -1);
        EMPTY.refuses("away", x -> Scene.bit(x.away(0, 0, 1)), 0);
        EMPTY.refuses("stay", x -> x.stay(0, 0, 1), -1);
        EMPTY.refuses("leaves", x -> Scene.bit(x.leaves(0, 1)), 0);
        EMPTY.refuses("home", x -> x.home(0, 0), -1);
        EMPTY.refuses("moved", x -> x.moved(0, 0), -1);
        EMPTY.refuses("stayOf", x -> x.stayOf(0, 0), -1);
        EMPTY.refuses("lies", x -> x.lies(0, 0), -1);
        EMPTY.refuses("boatOf", x -> x.boatOf(0, 0), -1);
        EMPTY.refuses("fits", x -> x.fits(0, 0, 0), -1);
        EMPTY.refuses("lift", x -> x.lift(0, 0, 1), -1);
        EMPTY.refuses("lifted", x -> x.lifted(0), -1);
        EMPTY.refuses("winter", x -> x.winter(0, 0), -1);
        EMPTY.refuses("lane", x -> x.lane(0), -1);
        EMPTY.refuses("says", x -> x.says(0, 1, 1, 1), 0);
        EMPTY.refuses("owes", x -> x.owes(0), 0);
    }

    // "LEVELS 0": on each day.
    private static void aNewObjectsLevelsAreZero() {
        Scene scene = new Scene(DUE, x -> {
            x.berth(10, 5);
            x.boat(10, 5, 1, -1);
            x.boat(10, 6, 1, -1);
        });
        for (int i = 0; i < 400; i++) {
            int day = i;
            scene.answers("as deep, on " + day, x -> x.fits(0, 0, day), 1);
            scene.answers("deeper by one, on " + day, x -> x.fits(1, 0, day), 0);
        }
        scene.answers("the first of the levels", x -> Scene.bit(x.level(0, 1)), 1);
    }

    // "0 BERTHS .. 8 MOVES kept (..). NONE for others."
    private static void aboutTellsNineThings() {
        int[] due = {5, 5, 6, 3, 3, 3, 2, 3, 2};
        for (int i = 0; i < due.length; i++) {
            int what = i;
            BUSY.answers("about(" + i + ")", x -> x.about(what), due[what]);
        }
        for (int what : new int[] {-1, 9, 10, 100, Integer.MIN_VALUE, Integer.MAX_VALUE}) {
            BUSY.refuses("about(" + what + ")", x -> x.about(what), -1);
            EMPTY.refuses("about(" + what + ") of a new object", x -> x.about(what), -1);
        }
    }

    // "7 bytes of the tape, 8 MOVES kept (of home(); 0 at first)": full and empty again.
    private static void aboutCountsTheTapeAndTheMoves() {
        Scene full = EMPTY.then(x -> {
            for (int i = 0; i < 10; i++) {
                x.feed(0, 0, 0, 0, 0);
            }
        });
        full.answers("a full tape", x -> x.about(7), 200);
        full.then(x -> x.rule(0)).answers("one that was read", x -> x.about(7), 0);
        full.then(x -> x.end(0)).answers("one that was ended", x -> x.about(7), 0);
        EMPTY.answers("no moves at first", x -> x.about(8), 0);
        Scene none = BUSY.then(x -> x.home(1, 350));
        none.answers("a home() without moves", x -> x.about(8), 0);
    }

    // Of the calls that only tell, whether they find what they are asked for or not.
    private static void questionsChangeNothing() {
        BUSY.refuses("questions", x -> {
            for (int i = -1; i <= 6; i++) {
                x.moved(i, 1);
                x.stayOf(i, 4);
                x.lies(i, 15);
                x.boatOf(i, 3);
                x.boatOf(i, 115);
                x.fits(i, 1, 15);
                x.lifted(i);
                x.lane(i);
                x.fault(i);
                x.says(i, 7, 8, 9);
                x.owes(i);
                x.about(i);
            }
            return x.moves();
        }, 0);
    }
}
