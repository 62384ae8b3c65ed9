/**
 * The boundary cases of promises 4 (berth), 5 (boat), 13 (boatOf) and 14 (fits), and of BERTHS, BOATS
 * and FITS in the terms. The comment ahead of each test is the sentence that it holds the class to.
 */
public final class BerthsBoundsTest {
    private static final Due DUE = new Due();
    private static final Scene BUSY = new Scene(DUE, Scenes::busy);
    private static final Scene TIDAL = new Scene(DUE, Scenes::tidal);

    public static void main(String[] args) {
        berthLengthIsTenToFourHundred();
        berthDepthIsZeroToSixty();
        thereAreTenBerths();
        boatLengthIsTenToFourHundred();
        boatDraughtIsZeroToSixty();
        boatWeightIsOneToFiveHundred();
        thereAreThirtyBoats();
        theHomeIsABerthOrNone();
        theHomeIsNoOtherOnes();
        noStayWasToldAtTheHome();
        theHomeFitsOnEachDay();
        boatOfTellsOfABoat();
        boatOfTellsFourThings();
        boatOfTellsOfEachNight();
        fitsByLength();
        fitsByDraughtDepthAndLevel();
        fitsTellsNoneForOthers();
        DUE.finish();
    }

    // "BERTHS ..: LENGTH (10 .. 400)"; "A BERTH: its number. NONE for others".
    private static void berthLengthIsTenToFourHundred() {
        BUSY.takes("berth of length", 10, 400, (x, v) -> x.berth(v, 0), 5, -1);
        for (int length : new int[] {10, 11, 399, 400}) {
            Scene scene = new Scene(DUE, x -> {
                x.berth(length, 0);
                x.boat(length, 0, 1, -1);
                x.boat(Math.min(400, length + 1), 0, 1, -1);
            });
            scene.answers("as long as " + length, x -> x.fits(0, 0, 0), 1);
            scene.answers("longer than " + length, x -> x.fits(1, 0, 0), length == 400 ? 1 : 0);
        }
    }

    // "DEPTH (0 .. 60)".
    private static void berthDepthIsZeroToSixty() {
        BUSY.takes("berth of depth", 0, 60, (x, v) -> x.berth(10, v), 5, -1);
        for (int depth : new int[] {0, 1, 59, 60}) {
            Scene scene = new Scene(DUE, x -> {
                x.berth(10, depth);
                x.boat(10, depth, 1, -1);
                x.boat(10, Math.min(60, depth + 1), 1, -1);
            });
            scene.answers("as deep as " + depth, x -> x.fits(0, 0, 0), 1);
            scene.answers("deeper than " + depth, x -> x.fits(1, 0, 0), depth == 60 ? 1 : 0);
        }
    }

    private static Scene berths(int count) {
        return new Scene(DUE, x -> {
            for (int i = 0; i < count; i++) {
                x.berth(10 + i, i);
            }
            x.boat(15, 3, 1, -1);
        });
    }

    // "BERTHS 0 .. 9"; "NONE .. if there are 10".
    private static void thereAreTenBerths() {
        for (int i = 0; i < 10; i++) {
            berths(i).answers("berth " + i, x -> x.berth(50, 5), i);
        }
        berths(10).refuses("the eleventh berth", x -> x.berth(50, 5), -1);
        berths(10).answers("there are ten", x -> x.about(0), 10);
        berths(10).answers("the tenth is a home", x -> x.boat(19, 9, 1, 9), 1);
        berths(10).refuses("there is no eleventh", x -> x.boat(10, 0, 1, 10), -1);
    }

    // "BOATS ..: LENGTH (10 .. 400)"; "A BOAT: its number. NONE for others".
    private static void boatLengthIsTenToFourHundred() {
        BUSY.takes("boat of length", 10, 400, (x, v) -> x.boat(v, 0, 1, -1), 5, -1);
        for (int v : new int[] {10, 11, 399, 400}) {
            BUSY.then(x -> x.boat(v, 0, 1, -1)).answers("its length", x -> x.boatOf(5, 0), v);
        }
    }

    // "DRAUGHT (0 .. 60)".
    private static void boatDraughtIsZeroToSixty() {
        BUSY.takes("boat of draught", 0, 60, (x, v) -> x.boat(10, v, 1, -1), 5, -1);
        for (int v : new int[] {0, 1, 59, 60}) {
            BUSY.then(x -> x.boat(10, v, 1, -1)).answers("its draught", x -> x.boatOf(5, 1), v);
        }
    }

    // "WEIGHT (1 .. 500)".
    private static void boatWeightIsOneToFiveHundred() {
        BUSY.takes("boat of weight", 1, 500, (x, v) -> x.boat(10, 0, v, -1), 5, -1);
        for (int v : new int[] {1, 2, 499, 500}) {
            BUSY.then(x -> x.boat(10, 0, v, -1)).answers("its weight", x -> x.boatOf(5, 2), v);
        }
    }

    private static Scene boats(int count) {
        return new Scene(DUE, x -> {
            x.berth(50, 5);
            for (int i = 0; i < count; i++) {
                x.boat(10 + i, i, 1 + i, -1);
            }
        });
    }

    // "BOATS 0 .. 29"; "NONE .. if there are 30".
    private static void thereAreThirtyBoats() {
        for (int i = 0; i < 30; i++) {
            boats(i).answers("boat " + i, x -> x.boat(50, 5, 5, -1), i);
        }
        boats(29).answers("the 30th boat, with a home", x -> x.boat(50, 5, 5, 0), 29);
        boats(30).refuses("the 31st boat", x -> x.boat(50, 5, 5, -1), -1);
        boats(30).refuses("the 31st boat, with a home", x -> x.boat(50, 5, 5, 0), -1);
        boats(30).answers("there are thirty", x -> x.about(1), 30);
        boats(30).answers("the home is nobody's", x -> x.lies(0, 0), -1);
    }

    // "a HOME (a BERTH ..) or none": -1 is none, and there are as many homes as berths.
    private static void theHomeIsABerthOrNone() {
        Scene free = new Scene(DUE, x -> {
            x.berth(50, 5);
            x.berth(50, 5);
            x.berth(50, 5);
        });
        for (int home = -1; home <= 2; home++) {
            int it = home;
            free.answers("boat with home " + it, x -> x.boat(50, 5, 5, it), 0);
            free.then(x -> x.boat(50, 5, 5, it)).answers("its home", x -> x.boatOf(0, 3), it);
        }
        for (int home : new int[] {-2, 3, 9, 10, Integer.MIN_VALUE, Integer.MAX_VALUE}) {
            free.refuses("boat with home " + home, x -> x.boat(50, 5, 5, home), -1);
        }
        BUSY.refuses("boat with home 5 of five berths", x -> x.boat(10, 0, 5, 5), -1);
        new Scene(DUE, x -> { }).refuses("home 0 without a berth", x -> x.boat(50, 5, 5, 0), -1);
    }

    // "with a HOME: that is another one's"; "a BERTH that is no other one's".
    private static void theHomeIsNoOtherOnes() {
        Scene taken = new Scene(DUE, x -> {
            x.berth(50, 5);
            x.berth(50, 5);
            x.boat(20, 5, 5, 0);
        });
        taken.refuses("another one's", x -> x.boat(20, 5, 5, 0), -1);
        taken.then(x -> x.away(0, 0, 400)).refuses("of one who is always away", x -> x.boat(20, 5, 5, 0), -1);
        taken.answers("the one beside it", x -> x.boat(20, 5, 5, 1), 1);
        taken.answers("none, beside another without one", x -> x.boat(20, 5, 5, -1), 1);
        BUSY.refuses("another one's, berth 0", x -> x.boat(10, 0, 1, 0), -1);
        BUSY.refuses("another one's, berth 1", x -> x.boat(10, 0, 1, 1), -1);
    }

    // "with a HOME: .. a STAY was told there".
    private static void noStayWasToldAtTheHome() {
        Scene free = new Scene(DUE, x -> {
            x.berth(50, 5);
            x.berth(50, 5);
            x.boat(20, 5, 5, -1);
        });
        free.answers("no stay", x -> x.boat(20, 5, 5, 0), 1);
        for (int night : new int[] {0, 1, 398, 399}) {
            Scene told = free.then(x -> x.stay(0, night, night + 1));
            told.refuses("a stay on night " + night, x -> x.boat(20, 5, 5, 0), -1);
            told.answers("the berth beside it", x -> x.boat(20, 5, 5, 1), 1);
        }
        Scene left = free.then(x -> {
            x.stay(0, 10, 20);
            x.leaves(0, 11);
        });
        left.refuses("a stay that left early", x -> x.boat(20, 5, 5, 0), -1);
        BUSY.refuses("a stay that moved there", x -> x.boat(10, 0, 1, 4), -1);
        free.then(x -> x.stay(0, 0, 0)).answers("a stay that was refused", x -> x.boat(20, 5, 5, 0), 1);
    }

    // "with a HOME: .. or it doesn't FIT on each DAY 0 .. 399".
    private static void theHomeFitsOnEachDay() {
        Scene still = new Scene(DUE, x -> x.berth(50, 5));
        still.answers("as long, as deep", x -> x.boat(50, 5, 1, 0), 0);
        still.answers("shorter, less deep", x -> x.boat(49, 4, 1, 0), 0);
        still.refuses("longer by one", x -> x.boat(51, 5, 1, 0), -1);
        still.refuses("deeper by one", x -> x.boat(50, 6, 1, 0), -1);
        for (int low : new int[] {0, 1, 15, 28, 29}) {
            Scene tide = new Scene(DUE, x -> {
                x.berth(50, 5);
                x.levels(30);
                for (int k = 0; k < 30; k++) {
                    x.level(k, k == low ? 3 : 40);
                }
            });
            tide.answers("its lowest water is enough, on " + low, x -> x.boat(50, 8, 1, 0), 0);
            tide.refuses("too little by one, on " + low, x -> x.boat(50, 9, 1, 0), -1);
            tide.answers("without a home it may be", x -> x.boat(50, 9, 1, -1), 0);
        }
    }

    // "Of a BOAT: .. NONE for others": its number.
    private static void boatOfTellsOfABoat() {
        Scene two = new Scene(DUE, x -> {
            x.boat(20, 0, 5, -1);
            x.boat(20, 0, 5, -1);
        });
        two.takes("boatOf", 0, 1, (x, boat) -> x.boatOf(boat, 0), 20, -1);
        new Scene(DUE, x -> { }).answers("boatOf(0, 0) without boats", x -> x.boatOf(0, 0), -1);
        boats(30).answers("boatOf(29, 0)", x -> x.boatOf(29, 0), 39);
        boats(30).answers("boatOf(30, 0)", x -> x.boatOf(30, 0), -1);
    }

    // "0 LENGTH, 1 DRAUGHT, 2 WEIGHT, 3 HOME (NONE) .. NONE for others."
    private static void boatOfTellsFourThings() {
        BUSY.answers("length", x -> x.boatOf(0, 0), 90);
        BUSY.answers("draught", x -> x.boatOf(0, 1), 8);
        BUSY.answers("weight", x -> x.boatOf(0, 2), 50);
        BUSY.answers("home", x -> x.boatOf(1, 3), 1);
        BUSY.answers("home 0", x -> x.boatOf(0, 3), 0);
        BUSY.answers("no home", x -> x.boatOf(2, 3), -1);
        for (int what : new int[] {Integer.MIN_VALUE, -100, -1, 4, 5, 98, 99, 500, 501, Integer.MAX_VALUE}) {
            BUSY.refuses("boatOf(1, " + what + ")", x -> x.boatOf(1, what), -1);
        }
    }

    // "100 + DAY: the BERTH where it lies on a night (NONE)": days 0 .. 399.
    private static void boatOfTellsOfEachNight() {
        BUSY.takes("at home ahead of day 300: boatOf(1, what)", 100, 399, (x, what) -> x.boatOf(1, what), 1, -1);
        Scene home = new Scene(DUE, x -> {
            x.berth(50, 5);
            x.boat(50, 5, 1, 0);
            x.boat(50, 5, 1, -1);
            x.away(0, 1, 2);
            x.away(0, 398, 399);
            x.stay(1, 398, 399);
        });
        home.takes("at home: boatOf(0, what)", 100, 100, (x, what) -> x.boatOf(0, what), 0, -1);
        home.takes("at home: boatOf(0, what)", 499, 499, (x, what) -> x.boatOf(0, what), 0, -1);
        home.takes("a stay: boatOf(1, what)", 498, 498, (x, what) -> x.boatOf(1, what), 0, -1);
    }

    // "A BOAT FITS a BERTH on a DAY if its LENGTH is not above the BERTH's".
    private static void fitsByLength() {
        for (int length : new int[] {10, 11, 200, 399, 400}) {
            Scene scene = new Scene(DUE, x -> {
                x.berth(length, 0);
                for (int i = -1; i <= 1; i++) {
                    x.boat(Math.max(10, Math.min(400, length + i)), 0, 1, -1);
                }
            });
            scene.answers("a shorter one than " + length, x -> x.fits(0, 0, 7), 1);
            scene.answers("as long as " + length, x -> x.fits(1, 0, 7), 1);
            scene.answers("a longer one than " + length, x -> x.fits(2, 0, 7), length == 400 ? 1 : 0);
        }
    }

    // ".. and its DRAUGHT not above DEPTH and LEVEL": together, and the level is that of the day.
    private static void fitsByDraughtDepthAndLevel() {
        int[][] depthsAndLevels = {{0, 0}, {0, 40}, {20, 0}, {20, 39}, {19, 40}, {5, 3}};
        for (int[] it : depthsAndLevels) {
            int sum = it[0] + it[1];
            Scene scene = new Scene(DUE, x -> {
                x.levels(3);
                x.level(1, it[1]);
                x.berth(10, it[0]);
                x.boat(10, Math.max(0, sum - 1), 1, -1);
                x.boat(10, sum, 1, -1);
                x.boat(10, sum + 1, 1, -1);
            });
            scene.answers("less than " + sum, x -> x.fits(0, 0, 1), 1);
            scene.answers("as much as " + sum, x -> x.fits(1, 0, 1), 1);
            scene.answers("more than " + sum, x -> x.fits(2, 0, 1), 0);
            scene.answers("on the next day without water", x -> x.fits(1, 0, 2), it[1] == 0 ? 1 : 0);
            scene.answers("on the day ahead, without water", x -> x.fits(1, 0, 0), it[1] == 0 ? 1 : 0);
            scene.answers("when it comes again", x -> x.fits(1, 0, 397), 1);
        }
        Scene deepest = new Scene(DUE, x -> {
            x.level(0, 40);
            x.berth(10, 60);
            x.boat(10, 60, 1, -1);
        });
        deepest.answers("the deepest of all", x -> x.fits(0, 0, 399), 1);
    }

    // "Whether a BOAT FITS a BERTH on a DAY (1, 0). NONE for others."
    private static void fitsTellsNoneForOthers() {
        TIDAL.takes("fits(boat, 1, 0)", 0, 3, (x, boat) -> x.fits(boat, 1, 0), 1, -1);
        TIDAL.takes("fits(2, berth, 0)", 0, 2, (x, berth) -> x.fits(2, berth, 0), 1, -1);
        TIDAL.takes("fits(2, 0, day)", 0, 399, (x, day) -> x.fits(2, 0, day), 1, -1);
        TIDAL.takes("fits(1, 2, day), which doesn't", 0, 399, (x, day) -> x.fits(1, 2, day), 0, -1);
    }
}
