/**
 * The boundary cases of promises 15 (hoist), 16 (broken), 17 (lift) and 18 (lifted), and of the HOIST
 * in the terms. The comment ahead of each test is the sentence that it holds the class to.
 */
public final class HoistBoundsTest {
    private static final Due DUE = new Due();
    private static final Scene BUSY = new Scene(DUE, Scenes::busy);

    // Boats of weight 1, 2, 250, 499 and 500.
    private static final Scene BOATS = new Scene(DUE, x -> {
        for (int weight : new int[] {1, 2, 250, 499, 500}) {
            x.boat(50, 0, weight, -1);
        }
    });

    public static void main(String[] args) {
        leastLevelIsZeroToForty();
        mostWeightIsOneToFiveHundred();
        minutesOfADayAreOneToSixHundred();
        theFirstSettings();
        atLeastTheLeastLevel();
        notAboveTheMostWeight();
        enoughMinutesAreLeft();
        minutesAreLeftByTheLiftsAhead();
        minutesOfADayAreNotThoseOfAnother();
        brokenTakesADay();
        brokenOrNot();
        liftTakesABoat();
        liftTakesADay();
        liftTakesMinutes();
        thereAreFortyLifts();
        notAheadOfItsOwnDay();
        notAheadOfTheLiftAhead();
        theLiftAheadThatHasADay();
        thereIsNoSuchDayToTheLast();
        liftedTakesALift();
        liftsGoByTheSettingsOfNow();
        DUE.finish();
    }

    private static int hoist(SmallHarbour x, int level, int weight, int minutes) {
        return Scene.bit(x.hoist(level, weight, minutes));
    }

    // The day of one more lift.
    private static int dayOf(SmallHarbour x, int boat, int day, int minutes) {
        return x.lifted(x.lift(boat, day, minutes));
    }

    // "LEAST LEVEL (0 .. 40 ..)"; "LEAST LEVEL, MOST WEIGHT, MINUTES: true. False, changing nothing,
    // for others."
    private static void leastLevelIsZeroToForty() {
        BUSY.takes("hoist(level, 400, 100)", 0, 40, (x, v) -> hoist(x, v, 400, 100), 1, 0);
    }

    // "MOST WEIGHT (1 .. 500 ..)".
    private static void mostWeightIsOneToFiveHundred() {
        BUSY.takes("hoist(5, weight, 100)", 1, 500, (x, v) -> hoist(x, 5, v, 100), 1, 0);
    }

    // "MINUTES of a DAY (1 .. 600 ..)".
    private static void minutesOfADayAreOneToSixHundred() {
        BUSY.takes("hoist(5, 400, minutes)", 1, 600, (x, v) -> hoist(x, 5, 400, v), 1, 0);
        BUSY.refuses("hoist(-1, 0, 601)", x -> hoist(x, -1, 0, 601), 0);
    }

    // "(.. 0 at first)", "(.. 500)", "(.. 300)", and no day on which it is broken.
    private static void theFirstSettings() {
        BOATS.answers("level 0 is enough", x -> dayOf(x, 0, 0, 1), 0);
        BOATS.answers("weight 500 is not too much", x -> dayOf(x, 4, 0, 1), 0);
        BOATS.answers("299 minutes", x -> dayOf(x, 0, 7, 299), 7);
        BOATS.answers("300 minutes", x -> dayOf(x, 0, 7, 300), 7);
        BOATS.answers("301 minutes", x -> dayOf(x, 0, 7, 301), -1);
        for (int day = 0; day < 400; day++) {
            int it = day;
            BOATS.answers("not broken on " + day, x -> dayOf(x, 0, it, 1), it);
        }
    }

    // "with at least LEAST LEVEL".
    private static void atLeastTheLeastLevel() {
        for (int least : new int[] {1, 2, 20, 39, 40}) {
            Scene tide = BOATS.then(x -> {
                x.levels(5);
                x.level(1, least - 1);
                x.level(2, least);
                x.level(3, Math.min(40, least + 1));
                x.hoist(least, 500, 300);
            });
            tide.answers("less on day 1, as much on day 2", x -> dayOf(x, 0, 1, 10), 2);
            tide.answers("more on day 3", x -> dayOf(x, 0, 3, 10), 3);
            tide.answers("none on day 4, again on day 7", x -> dayOf(x, 0, 4, 10), 7);
        }
        Scene still = BOATS.then(x -> x.hoist(0, 500, 300));
        still.answers("level 0 by least level 0", x -> dayOf(x, 0, 1, 10), 1);
        BOATS.then(x -> x.hoist(1, 500, 300)).answers("level 0 by least level 1", x -> dayOf(x, 0, 1, 10), -1);
        Scene full = BOATS.then(x -> {
            x.level(0, 40);
            x.hoist(40, 500, 300);
        });
        full.answers("level 40 by least level 40", x -> dayOf(x, 0, 1, 10), 1);
    }

    // "none, if its WEIGHT is above MOST WEIGHT".
    private static void notAboveTheMostWeight() {
        int[] weights = {1, 2, 250, 499, 500};
        for (int most : new int[] {1, 2, 3, 249, 250, 251, 498, 499, 500}) {
            Scene scene = BOATS.then(x -> x.hoist(0, most, 300));
            for (int i = 0; i < weights.length; i++) {
                int boat = i;
                String name = "weight " + weights[i] + " by most weight " + most;
                scene.answers(name, x -> dayOf(x, boat, 9, 10), weights[boat] > most ? -1 : 9);
            }
        }
    }

    // "of which enough MINUTES are left": of a day without a lift.
    private static void enoughMinutesAreLeft() {
        for (int ofDay : new int[] {1, 2, 300, 599, 600}) {
            Scene scene = BOATS.then(x -> x.hoist(0, 500, ofDay));
            scene.answers("one less than " + ofDay, x -> dayOf(x, 0, 9, Math.max(1, ofDay - 1)), 9);
            scene.answers("as many as " + ofDay, x -> dayOf(x, 0, 9, ofDay), 9);
            if (ofDay < 600) {
                scene.answers("one more than " + ofDay, x -> dayOf(x, 0, 9, ofDay + 1), -1);
            }
        }
    }

    // "enough MINUTES are left by the LIFTS ahead".
    private static void minutesAreLeftByTheLiftsAhead() {
        Scene scene = BOATS.then(x -> {
            x.hoist(0, 500, 100);
            x.lift(0, 9, 40);
            x.lift(1, 9, 29);
        });
        for (int day : new int[] {0, 398}) {
            Scene one = BOATS.then(x -> {
                x.hoist(0, 500, 100);
                x.lift(0, day, 60);
            });
            one.answers("40 are left on " + day, x -> dayOf(x, 0, day, 40), day);
            one.answers("not 41 on " + day, x -> dayOf(x, 0, day, 41), day + 1);
        }
        scene.answers("31 are left: 30", x -> dayOf(x, 0, 9, 30), 9);
        scene.answers("31 are left: 31", x -> dayOf(x, 0, 9, 31), 9);
        scene.answers("31 are left: 32", x -> dayOf(x, 0, 9, 32), 10);
        scene.then(x -> x.lift(2, 9, 31)).answers("none is left: 1", x -> dayOf(x, 0, 9, 1), 10);
        scene.then(x -> x.lift(2, 9, 30)).answers("one is left: 1", x -> dayOf(x, 0, 9, 1), 9);
        scene.then(x -> x.lift(2, 9, 30)).answers("one is left: 2", x -> dayOf(x, 0, 9, 2), 10);
        Scene heavy = BOATS.then(x -> {
            x.hoist(0, 499, 100);
            x.lift(4, 9, 100);
        });
        heavy.answers("a lift without a day takes none", x -> dayOf(x, 0, 9, 100), 9);
    }

    // The same: the minutes of a day go with it.
    private static void minutesOfADayAreNotThoseOfAnother() {
        Scene scene = BOATS.then(x -> {
            x.hoist(0, 500, 100);
            x.lift(0, 0, 60);
            x.lift(0, 0, 60);
            x.lift(0, 0, 60);
        });
        for (int i = 0; i < 3; i++) {
            int lift = i;
            scene.answers("lift " + i, x -> x.lifted(lift), lift);
        }
        scene.answers("40 are left of the third day", x -> dayOf(x, 0, 0, 40), 2);
        scene.answers("41 are not", x -> dayOf(x, 0, 0, 41), 3);
        scene.answers("a later day is whole", x -> dayOf(x, 0, 5, 100), 5);
    }

    // "The HOIST is broken on a DAY ..: true. False for others."
    private static void brokenTakesADay() {
        BUSY.takes("broken(day, true)", 0, 399, (x, day) -> Scene.bit(x.broken(day, true)), 1, 0);
        BUSY.takes("broken(day, false)", 0, 399, (x, day) -> Scene.bit(x.broken(day, false)), 1, 0);
        for (int day : new int[] {0, 1, 398, 399}) {
            Scene scene = BOATS.then(x -> x.broken(day, true));
            scene.answers("on " + day, x -> dayOf(x, 0, day, 1), day == 399 ? -1 : day + 1);
            scene.answers("behind " + day, x -> dayOf(x, 0, Math.min(399, day + 1), 1), day == 399 ? -1 : day + 1);
            scene.answers("ahead of " + day, x -> dayOf(x, 0, Math.max(0, day - 1), 1), day == 0 ? 1 : day - 1);
        }
    }

    // ".. or not": once more, no more, and where it never was.
    private static void brokenOrNot() {
        Scene twice = BOATS.then(x -> {
            x.broken(5, true);
            x.broken(5, true);
        });
        twice.answers("broken twice", x -> dayOf(x, 0, 5, 1), 6);
        Scene mended = twice.then(x -> x.broken(5, false));
        mended.answers("mended once", x -> dayOf(x, 0, 5, 1), 5);
        BOATS.then(x -> x.broken(5, false)).answers("never broken", x -> dayOf(x, 0, 5, 1), 5);
        Scene all = BOATS.then(x -> {
            for (int day = 0; day < 400; day++) {
                x.broken(day, true);
            }
        });
        all.answers("broken on all days", x -> dayOf(x, 0, 0, 1), -1);
        all.then(x -> x.broken(399, false)).answers("but the last", x -> dayOf(x, 0, 0, 1), 399);
    }

    // "LIFTS ..: a BOAT"; "A LIFT: its number. NONE for others".
    private static void liftTakesABoat() {
        BOATS.takes("lift(boat, 0, 1)", 0, 4, (x, boat) -> x.lift(boat, 0, 1), 0, -1);
        BUSY.takes("lift(boat, 0, 1)", 0, 4, (x, boat) -> x.lift(boat, 0, 1), 3, -1);
        new Scene(DUE, x -> { }).refuses("lift(0, 0, 1) without boats", x -> x.lift(0, 0, 1), -1);
    }

    // "a DAY from which on".
    private static void liftTakesADay() {
        BUSY.takes("lift(0, day, 1)", 0, 399, (x, day) -> x.lift(0, day, 1), 3, -1);
    }

    // "MINUTES (1 .. 600)": also more than the hoist has on a day.
    private static void liftTakesMinutes() {
        BUSY.takes("lift(0, 0, minutes)", 1, 600, (x, minutes) -> x.lift(0, 0, minutes), 3, -1);
        Scene most = BOATS.then(x -> x.hoist(0, 500, 600));
        most.answers("600 of 600", x -> dayOf(x, 0, 0, 600), 0);
        Scene longer = BOATS.then(x -> x.lift(0, 0, 301));
        longer.answers("301 of 300", x -> x.lifted(0), -1);
        longer.then(x -> x.hoist(0, 500, 301)).answers("301 of 301", x -> x.lifted(0), 0);
    }

    private static Scene lifts(int count) {
        return BOATS.then(x -> {
            for (int i = 0; i < count; i++) {
                x.lift(i % 5, 3 * i, 1);
            }
        });
    }

    // "LIFTS 0 .. 39"; "NONE .. if there are 40".
    private static void thereAreFortyLifts() {
        for (int i = 0; i < 40; i++) {
            lifts(i).answers("lift " + i, x -> x.lift(0, 200, 1), i);
        }
        lifts(40).refuses("the 41st lift", x -> x.lift(0, 200, 1), -1);
        lifts(40).answers("there are 40", x -> x.about(4), 40);
        lifts(40).answers("the last one's day", x -> x.lifted(39), 117);
    }

    // "the first DAY not ahead of its own".
    private static void notAheadOfItsOwnDay() {
        for (int day : new int[] {0, 1, 200, 398, 399}) {
            BOATS.answers("its own day " + day, x -> dayOf(x, 0, day, 1), day);
        }
        Scene later = BOATS.then(x -> x.lift(0, 5, 1));
        later.answers("later than the lift ahead", x -> dayOf(x, 0, 6, 1), 6);
    }

    // "nor of the LIFT ahead of it".
    private static void notAheadOfTheLiftAhead() {
        Scene one = BOATS.then(x -> x.lift(0, 50, 1));
        one.answers("a day ahead of it", x -> dayOf(x, 0, 49, 1), 50);
        one.answers("its day", x -> dayOf(x, 0, 50, 1), 50);
        one.answers("a day behind it", x -> dayOf(x, 0, 51, 1), 51);
        Scene two = one.then(x -> x.lift(0, 60, 1));
        two.answers("the later of two", x -> dayOf(x, 0, 0, 1), 60);
        Scene put = BOATS.then(x -> {
            x.broken(50, true);
            x.lift(0, 50, 1);
        });
        put.answers("the day that it got, not its own", x -> dayOf(x, 0, 50, 1), 51);
        Scene full = BOATS.then(x -> {
            x.lift(0, 50, 200);
            x.lift(0, 50, 200);
        });
        full.answers("room on an earlier day is no matter", x -> dayOf(x, 0, 50, 100), 51);
    }

    // "the LIFT ahead of it that has one": those without a day are passed over.
    private static void theLiftAheadThatHasADay() {
        Scene none = BOATS.then(x -> {
            x.hoist(0, 499, 100);
            x.lift(4, 60, 1);
            x.lift(0, 70, 101);
        });
        none.answers("none ahead has a day", x -> dayOf(x, 0, 3, 1), 3);
        Scene one = BOATS.then(x -> {
            x.hoist(0, 499, 100);
            x.lift(0, 50, 99);
            x.lift(4, 60, 1);
            x.lift(0, 70, 101);
        });
        one.answers("the first ahead has one: its last minute", x -> dayOf(x, 0, 3, 1), 50);
        one.answers("the first ahead has one: two minutes", x -> dayOf(x, 0, 3, 2), 51);
    }

    // "or there is no such DAY to 399".
    private static void thereIsNoSuchDayToTheLast() {
        Scene last = BOATS.then(x -> x.lift(0, 399, 299));
        last.answers("the last minute of the last day", x -> dayOf(x, 0, 0, 1), 399);
        last.answers("one more than that", x -> dayOf(x, 0, 0, 2), -1);
        last.then(x -> x.lift(0, 0, 2)).answers("and one behind that again", x -> dayOf(x, 0, 0, 1), 399);
        Scene seldom = BOATS.then(x -> {
            x.levels(30);
            x.level(9, 5);
            x.hoist(5, 500, 100);
        });
        seldom.answers("the last day with water is 399", x -> dayOf(x, 0, 370, 1), 399);
        Scene early = BOATS.then(x -> {
            x.levels(30);
            x.level(8, 5);
            x.hoist(5, 500, 100);
        });
        early.answers("the last day with water is 398", x -> dayOf(x, 0, 398, 1), 398);
        early.answers("none behind it", x -> dayOf(x, 0, 399, 1), -1);
        Scene next = BOATS.then(x -> {
            x.levels(30);
            x.level(10, 5);
            x.hoist(5, 500, 100);
        });
        next.answers("the next would be 400", x -> dayOf(x, 0, 371, 1), -1);
        next.answers("the last is 370", x -> dayOf(x, 0, 341, 1), 370);
    }

    // "The DAY of a LIFT. NONE without one, and for others."
    private static void liftedTakesALift() {
        Scene two = BOATS.then(x -> {
            x.lift(0, 7, 1);
            x.lift(1, 7, 1);
        });
        two.takes("lifted", 0, 1, (x, i) -> x.lifted(i), 7, -1);
        BOATS.refuses("lifted(0) without lifts", x -> x.lifted(0), -1);
        lifts(40).answers("lifted(40) of 40", x -> x.lifted(40), -1);
        lifts(40).answers("lifted(-1) of 40", x -> x.lifted(-1), -1);
    }

    // "LIFT by LIFT": by what the hoist and the water are when it is asked.
    private static void liftsGoByTheSettingsOfNow() {
        Scene scene = BOATS.then(x -> {
            x.lift(2, 7, 100);
            x.lift(0, 0, 250);
        });
        scene.answers("lift 0", x -> x.lifted(0), 7);
        scene.answers("lift 1", x -> x.lifted(1), 8);
        scene.then(x -> x.hoist(0, 249, 300)).answers("lift 0 is too heavy now", x -> x.lifted(0), -1);
        scene.then(x -> x.hoist(0, 249, 300)).answers("lift 1 waits for none", x -> x.lifted(1), 0);
        scene.then(x -> x.hoist(0, 500, 350)).answers("both on one day", x -> x.lifted(1), 7);
        scene.then(x -> x.hoist(0, 500, 349)).answers("one minute too few", x -> x.lifted(1), 8);
        scene.then(x -> x.broken(7, true)).answers("lift 0 waits", x -> x.lifted(0), 8);
        scene.then(x -> x.broken(7, true)).answers("so lift 1 waits", x -> x.lifted(1), 9);
    }
}
