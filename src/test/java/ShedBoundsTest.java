/**
 * The boundary cases of promises 19 (shed), 20 (winter), 21 (moves) and 22 (lane), and of the SHED in
 * the terms. The comment ahead of each test is the sentence that it holds the class to.
 */
public final class ShedBoundsTest {
    private static final Due DUE = new Due();
    private static final Scene BUSY = new Scene(DUE, Scenes::busy);

    // Twelve boats of length 10, 11 and so on.
    private static final Scene BOATS = new Scene(DUE, x -> {
        for (int i = 0; i < 12; i++) {
            x.boat(10 + i, 0, 1, -1);
        }
    });

    public static void main(String[] args) {
        thereAreOneToFourLanes();
        aLaneIsTenToTwoThousandLong();
        soManyLanes();
        soLongIsEach();
        nothingIsInIt();
        aNewShedIsOneLaneOfHundred();
        winterTakesABoat();
        winterTakesADay();
        aBoatIsThereOnce();
        thereAreNineBoats();
        lengthsTogetherAreNotAboveTheLane();
        earlierInAndEarlierOutIsOneMove();
        movesOfEachPairOfALane();
        movesOfAnEmptyShed();
        theyCanNotAllBePut();
        theFewestMoves();
        theLowerLaneFirst();
        laneTakesABoatOfTheShed();
        noLanesForAny();
        DUE.finish();
    }

    private static int shed(SmallHarbour x, int lanes, int length) {
        return Scene.bit(x.shed(lanes, length));
    }

    private static Scene boats(int... lengths) {
        return new Scene(DUE, x -> {
            for (int length : lengths) {
                x.boat(length, 0, 1, -1);
            }
        });
    }

    private static void winterAll(SmallHarbour x, int... out) {
        for (int i = 0; i < out.length; i++) {
            x.winter(i, out[i]);
        }
    }

    private static void lanesAre(Scene scene, String name, int... lanes) {
        for (int i = 0; i < lanes.length; i++) {
            int it = i;
            scene.answers(name + ", lane(" + i + ")", x -> x.lane(it), lanes[it]);
        }
    }

    // "LANES 1 to 4"; "THE SHED has so many LANES ..: true. False for others."
    private static void thereAreOneToFourLanes() {
        BUSY.takes("shed(lanes, 100)", 1, 4, (x, v) -> shed(x, v, 100), 1, 0);
    }

    // "each with a LENGTH (10 .. 2000)".
    private static void aLaneIsTenToTwoThousandLong() {
        BUSY.takes("shed(1, length)", 10, 2000, (x, v) -> shed(x, 1, v), 1, 0);
        BUSY.takes("shed(4, length)", 10, 2000, (x, v) -> shed(x, 4, v), 1, 0);
        BUSY.refuses("shed(0, 9)", x -> shed(x, 0, 9), 0);
    }

    // "THE SHED has so many LANES": as many boats as lanes can go in, if each fills one.
    private static void soManyLanes() {
        Scene five = boats(100, 100, 100, 100, 100);
        for (int lanes = 1; lanes <= 4; lanes++) {
            int so = lanes;
            Scene full = five.then(x -> {
                x.shed(so, 100);
                for (int i = 0; i < so; i++) {
                    x.winter(i, i);
                }
            });
            full.answers("one for each of " + so, x -> x.moves(), 0);
            full.answers("the last lane", x -> x.lane(so - 1), so - 1);
            full.then(x -> x.winter(4, 1)).answers("one more than " + so, x -> x.moves(), -1);
        }
    }

    // "LANES of a LENGTH each".
    private static void soLongIsEach() {
        for (int length : new int[] {10, 11, 399, 400}) {
            Scene one = boats(length).then(x -> x.winter(0, 5));
            one.then(x -> {
                x.shed(1, length);
                x.winter(0, 5);
            }).answers("as long as the boat, " + length, x -> x.moves(), 0);
            one.then(x -> {
                x.shed(1, length + 1);
                x.winter(0, 5);
            }).answers("longer by one than " + length, x -> x.moves(), 0);
            if (length > 10) {
                one.then(x -> {
                    x.shed(1, length - 1);
                    x.winter(0, 5);
                }).answers("shorter by one than " + length, x -> x.moves(), -1);
            }
        }
        Scene longest = boats(400, 400, 400, 400, 400, 10).then(x -> {
            x.shed(1, 2000);
            winterAll(x, 50, 40, 30, 20, 10);
        });
        longest.answers("2000 in 2000", x -> x.moves(), 0);
        longest.then(x -> x.winter(5, 1)).answers("2010 in 2000", x -> x.moves(), -1);
        Scene less = boats(400, 400, 400, 400, 400).then(x -> {
            x.shed(1, 1999);
            winterAll(x, 50, 40, 30, 20, 10);
        });
        less.answers("2000 in 1999", x -> x.moves(), -1);
    }

    // ".. nothing in it": also where it is told the same again.
    private static void nothingIsInIt() {
        Scene again = BUSY.then(x -> x.shed(2, 180));
        again.answers("none in it", x -> x.about(5), 0);
        again.answers("no moves", x -> x.moves(), 0);
        lanesAre(again, "none in it", -1, -1, -1);
        again.answers("a boat that was in it", x -> x.winter(0, 10), 1);
        Scene overfull = boats(101).then(x -> {
            x.winter(0, 5);
            x.shed(1, 100);
        });
        overfull.answers("no moves behind an overfull one", x -> x.moves(), 0);
    }

    // "A new object: .. one LANE of 100".
    private static void aNewShedIsOneLaneOfHundred() {
        boats(99).then(x -> x.winter(0, 1)).answers("99", x -> x.moves(), 0);
        boats(100).then(x -> x.winter(0, 1)).answers("100", x -> x.moves(), 0);
        boats(101).then(x -> x.winter(0, 1)).answers("101", x -> x.moves(), -1);
        boats(90, 10).then(x -> winterAll(x, 2, 1)).answers("90 and 10", x -> x.lane(1), 0);
        boats(90, 11).then(x -> winterAll(x, 2, 1)).answers("90 and 11: no second lane", x -> x.lane(1), -1);
        new Scene(DUE, x -> { }).answers("moves of none", x -> x.moves(), 0);
    }

    // "A BOAT comes into the shed ..: how many are there. NONE: others".
    private static void winterTakesABoat() {
        BOATS.takes("winter(boat, 5)", 0, 11, (x, boat) -> x.winter(boat, 5), 1, -1);
        BUSY.refuses("winter(5, 5) of five boats", x -> x.winter(5, 5), -1);
        BUSY.answers("winter(4, 5) of five boats", x -> x.winter(4, 5), 4);
        new Scene(DUE, x -> { }).refuses("winter(0, 5) without boats", x -> x.winter(0, 5), -1);
    }

    // "to go out on a DAY".
    private static void winterTakesADay() {
        BUSY.takes("winter(4, day)", 0, 399, (x, day) -> x.winter(4, day), 4, -1);
    }

    // "it is there".
    private static void aBoatIsThereOnce() {
        BUSY.refuses("the first in it", x -> x.winter(0, 10), -1);
        BUSY.refuses("the first in it, another day", x -> x.winter(0, 11), -1);
        BUSY.refuses("the last in it", x -> x.winter(3, 15), -1);
        BUSY.answers("one that isn't", x -> x.winter(1, 15), 4);
        Scene overfull = boats(101, 10).then(x -> x.winter(0, 5));
        overfull.refuses("one that can't be put is there", x -> x.winter(0, 5), -1);
        overfull.answers("so is the next", x -> x.winter(1, 5), 2);
    }

    private static Scene shedOf(int count) {
        return BOATS.then(x -> {
            x.shed(2, 150);
            for (int i = 0; i < count; i++) {
                x.winter(i, 100 - i);
            }
        });
    }

    // "Up to 9 BOATS come in"; "or there are 9".
    private static void thereAreNineBoats() {
        for (int i = 0; i < 9; i++) {
            shedOf(i).answers("boat " + i, x -> x.winter(11, 5), i + 1);
        }
        shedOf(9).refuses("the tenth", x -> x.winter(11, 5), -1);
        shedOf(9).refuses("one of the nine", x -> x.winter(8, 5), -1);
        shedOf(9).answers("there are nine", x -> x.about(5), 9);
        shedOf(9).answers("the ninth has a lane", x -> x.lane(8), 0);
        Scene overfull = BOATS.then(x -> {
            x.shed(1, 10);
            winterAll(x, 1, 2, 3, 4, 5, 6, 7, 8, 9);
        });
        overfull.answers("nine though they can't be put", x -> x.about(5), 9);
        overfull.refuses("the tenth", x -> x.winter(11, 5), -1);
    }

    // "so that LENGTHS together are not above the LANE's".
    private static void lengthsTogetherAreNotAboveTheLane() {
        Scene three = boats(50, 30, 21);
        for (int length : new int[] {100, 101, 102}) {
            Scene one = three.then(x -> {
                x.shed(1, length);
                winterAll(x, 3, 2, 1);
            });
            one.answers("101 in one lane of " + length, x -> x.moves(), length < 101 ? -1 : 0);
            Scene two = three.then(x -> {
                x.shed(2, length);
                winterAll(x, 3, 2, 1);
            });
            two.answers("101 in two lanes of " + length, x -> x.moves(), 0);
            lanesAre(two, "in two lanes of " + length, 0, 0, length < 101 ? 1 : 0);
        }
    }

    // "MOVES: of two BOATS of one LANE of which the earlier in goes out on an earlier DAY than the
    // later: one".
    private static void earlierInAndEarlierOutIsOneMove() {
        for (int day : new int[] {1, 200, 398}) {
            Scene two = boats(10, 10);
            two.then(x -> winterAll(x, day, day - 1)).answers("later out by one", x -> x.moves(), 0);
            two.then(x -> winterAll(x, day, day)).answers("out on one day", x -> x.moves(), 0);
            two.then(x -> winterAll(x, day, day + 1)).answers("earlier out by one", x -> x.moves(), 1);
        }
        boats(10, 10).then(x -> winterAll(x, 0, 399)).answers("the first day and the last", x -> x.moves(), 1);
        boats(10, 10).then(x -> winterAll(x, 399, 0)).answers("the last day and the first", x -> x.moves(), 0);
    }

    // The same: each pair of a lane, none of two lanes.
    private static void movesOfEachPairOfALane() {
        Scene nine = boats(10, 10, 10, 10, 10, 10, 10, 10, 10);
        Scene one = nine.then(x -> winterAll(x, 1, 2, 3, 4, 5, 6, 7, 8, 9));
        one.answers("all 36 pairs of nine", x -> x.moves(), 36);
        Scene other = nine.then(x -> winterAll(x, 9, 8, 7, 6, 5, 4, 3, 2, 1));
        other.answers("none of them", x -> x.moves(), 0);
        Scene four = boats(10, 10, 10, 10).then(x -> {
            x.shed(4, 10);
            winterAll(x, 1, 2, 3, 4);
        });
        four.answers("none of four lanes", x -> x.moves(), 0);
    }

    // "The MOVES of the shed": none without boats, none with one.
    private static void movesOfAnEmptyShed() {
        BOATS.answers("none in it", x -> x.moves(), 0);
        BOATS.then(x -> x.winter(0, 5)).answers("one in it", x -> x.moves(), 0);
    }

    // "NONE: they can't all be put into it", not even if others would be left out.
    private static void theyCanNotAllBePut() {
        Scene scene = boats(60, 60, 60, 40).then(x -> x.shed(2, 100));
        scene.then(x -> winterAll(x, 1, 1)).answers("two of them can", x -> x.moves(), 0);
        scene.then(x -> winterAll(x, 1, 1, 1)).answers("three can't", x -> x.moves(), -1);
        scene.then(x -> winterAll(x, 1, 1, 1, 1)).answers("nor with one more", x -> x.moves(), -1);
        Scene apart = boats(50, 60, 40, 50).then(x -> {
            x.shed(2, 100);
            winterAll(x, 1, 2, 3, 4);
        });
        apart.answers("only as 50 and 50, 60 and 40", x -> x.moves(), 2);
        lanesAre(apart, "as 50 and 50, 60 and 40", 0, 1, 1, 0);
    }

    // "LANES of the fewest MOVES", though others come first.
    private static void theFewestMoves() {
        Scene two = boats(10, 10).then(x -> {
            x.shed(2, 100);
            winterAll(x, 1, 2);
        });
        two.answers("none, in two lanes", x -> x.moves(), 0);
        lanesAre(two, "in two lanes", 0, 1);
        Scene three = boats(10, 10, 10).then(x -> {
            x.shed(2, 100);
            winterAll(x, 1, 2, 3);
        });
        three.answers("one, of three in two lanes", x -> x.moves(), 1);
        lanesAre(three, "of three in two lanes", 0, 0, 1);
    }

    // "of these the first by LANES (the lower first), BOAT by BOAT as they come in".
    private static void theLowerLaneFirst() {
        Scene all = boats(10, 10, 10, 10).then(x -> {
            x.shed(4, 100);
            winterAll(x, 9, 8, 7, 6);
        });
        lanesAre(all, "all in the first", 0, 0, 0, 0);
        Scene later = boats(10, 10, 10).then(x -> {
            x.shed(4, 100);
            winterAll(x, 5, 9, 4);
        });
        lanesAre(later, "the third back in the first", 0, 1, 0);
        Scene fourth = boats(10, 10, 10, 10).then(x -> {
            x.shed(4, 100);
            winterAll(x, 1, 2, 3, 4);
        });
        lanesAre(fourth, "each in its own", 0, 1, 2, 3);
        Scene full = boats(90, 90, 10).then(x -> {
            x.shed(3, 100);
            winterAll(x, 5, 5, 4);
        });
        lanesAre(full, "the first has room for it", 0, 1, 0);
    }

    // "The LANE of the i-th BOAT in the shed. NONE if there is none such".
    private static void laneTakesABoatOfTheShed() {
        Scene two = BOATS.then(x -> winterAll(x, 2, 1));
        two.takes("lane", 0, 1, (x, i) -> x.lane(i), 0, -1);
        shedOf(9).answers("lane(8) of nine", x -> x.lane(8), 0);
        shedOf(9).answers("lane(9) of nine", x -> x.lane(9), -1);
        BOATS.refuses("lane(0) of none", x -> x.lane(0), -1);
        Scene former = shedOf(9).then(x -> {
            x.shed(2, 150);
            x.winter(0, 5);
        });
        former.answers("lane(1) of one, where nine were", x -> x.lane(1), -1);
    }

    // ".. or no LANES": they can't all be put, so that none has a lane.
    private static void noLanesForAny() {
        Scene overfull = boats(60, 41).then(x -> winterAll(x, 2, 1));
        lanesAre(overfull, "overfull", -1, -1, -1);
        Scene just = boats(60, 40).then(x -> winterAll(x, 2, 1));
        lanesAre(just, "just full", 0, 0, -1);
    }
}
