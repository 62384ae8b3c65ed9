/**
 * The boundary cases of promises 6 (away), 7 (stay), 8 (leaves), 11 (stayOf) and 12 (lies), and of
 * SPANS AWAY and STAYS in the terms. The comment ahead of each test is the sentence that it holds
 * the class to.
 */
public final class NightsBoundsTest {
    private static final Due DUE = new Due();
    private static final Scene BUSY = new Scene(DUE, Scenes::busy);

    // Berth 0 is boat 0's home, berth 1 is free; boats 1 and 2 are visitors.
    private static final Scene PLAIN = new Scene(DUE, x -> {
        x.berth(50, 5);
        x.berth(50, 5);
        x.boat(50, 5, 1, 0);
        x.boat(50, 5, 1, -1);
        x.boat(50, 5, 1, -1);
    });

    public static void main(String[] args) {
        awayTakesABoatWithAHome();
        awayBeginsOnADay();
        awayEndsAheadOfADay();
        awayHasANight();
        awayOnlyOnceOnANight();
        thereAreSixtySpans();
        aSpanThatWentMakesRoom();
        atHomeButForItsSpans();
        stayTakesABoatWithoutAHome();
        stayBeginsOnADay();
        stayEndsAheadOfADay();
        stayHasANight();
        aBoatHasOneStayOnANight();
        stayFitsOnEachOfItsNights();
        nobodyElseHasItsBerth();
        theOwnerIsAwayOnEachOfItsNights();
        stayTakesTheFirstBerthThatCanBe();
        thereIsNoSuchBerth();
        thereAreFortyStays();
        leavesTakesAStay();
        leavesOnOneOfItsNightsNotItsFirst();
        leavesGivesTheNightsBack();
        stayOfTellsOfAStay();
        stayOfTellsFiveThings();
        liesTakesABerthAndADay();
        liesOnTheNightsOfAStay();
        DUE.finish();
    }

    private static int away(SmallHarbour x, int boat, int from, int to) {
        return Scene.bit(x.away(boat, from, to));
    }

    // "A BOAT with a HOME goes AWAY ..: true. False for others".
    private static void awayTakesABoatWithAHome() {
        Scene homes = new Scene(DUE, x -> {
            x.berth(50, 5);
            x.berth(50, 5);
            x.boat(50, 5, 1, 1);
            x.boat(50, 5, 1, 0);
        });
        homes.takes("away(boat, 3, 5)", 0, 1, (x, boat) -> away(x, boat, 3, 5), 1, 0);
        PLAIN.refuses("away(1, 3, 5), without a home", x -> away(x, 1, 3, 5), 0);
        BUSY.refuses("away(2, 100, 105), without a home", x -> away(x, 2, 100, 105), 0);
        new Scene(DUE, x -> { }).refuses("away(0, 3, 5) without boats", x -> away(x, 0, 3, 5), 0);
    }

    // "from a DAY on": 0 .. 399.
    private static void awayBeginsOnADay() {
        PLAIN.takes("away(0, from, 400)", 0, 399, (x, from) -> away(x, 0, from, 400), 1, 0);
        BUSY.takes("away(1, from, 300)", 0, 299, (x, from) -> away(x, 1, from, 300), 1, 0);
    }

    // "to the one ahead of another (0 .. 400)".
    private static void awayEndsAheadOfADay() {
        PLAIN.takes("away(0, 0, to)", 1, 400, (x, to) -> away(x, 0, 0, to), 1, 0);
        PLAIN.takes("away(0, 399, to)", 400, 400, (x, to) -> away(x, 0, 399, to), 1, 0);
    }

    // "from a DAY on to the one ahead of another": a span without a night is none.
    private static void awayHasANight() {
        for (int day : new int[] {0, 1, 200, 399, 400}) {
            PLAIN.refuses("away(0, d, d) of " + day, x -> away(x, 0, day, day), 0);
            PLAIN.refuses("away(0, d + 1, d) of " + day, x -> away(x, 0, day + 1, day), 0);
        }
        PLAIN.answers("one night", x -> away(x, 0, 200, 201), 1);
        PLAIN.refuses("away(0, max, min)", x -> away(x, 0, Integer.MAX_VALUE, Integer.MIN_VALUE), 0);
        PLAIN.refuses("away(0, min, max)", x -> away(x, 0, Integer.MIN_VALUE, Integer.MAX_VALUE), 0);
    }

    // "or if it is AWAY on one of these nights".
    private static void awayOnlyOnceOnANight() {
        Scene one = PLAIN.then(x -> x.away(0, 10, 20));
        one.answers("up to its first night", x -> away(x, 0, 5, 10), 1);
        one.refuses("its first night", x -> away(x, 0, 5, 11), 0);
        one.refuses("its first night alone", x -> away(x, 0, 10, 11), 0);
        one.refuses("its last night", x -> away(x, 0, 19, 25), 0);
        one.refuses("its last night alone", x -> away(x, 0, 19, 20), 0);
        one.answers("from its end on", x -> away(x, 0, 20, 25), 1);
        one.refuses("inside", x -> away(x, 0, 11, 19), 0);
        one.refuses("the same", x -> away(x, 0, 10, 20), 0);
        one.refuses("around", x -> away(x, 0, 9, 21), 0);
        one.refuses("all days", x -> away(x, 0, 0, 400), 0);
        Scene two = PLAIN.then(x -> {
            x.boat(50, 5, 1, 1);
            x.away(3, 10, 20);
        });
        two.answers("another boat's span is no matter", x -> away(x, 0, 10, 20), 1);
        Scene gap = one.then(x -> x.away(0, 21, 30));
        gap.answers("the night between two spans", x -> away(x, 0, 20, 21), 1);
        gap.refuses("that and one more", x -> away(x, 0, 20, 22), 0);
        BUSY.refuses("away(0, 13, 15)", x -> away(x, 0, 13, 15), 0);
        BUSY.answers("from the day that it came home on", x -> away(x, 0, 14, 15), 1);
    }

    // Two boats with homes, both of them with spans.
    private static Scene spans(int count) {
        return PLAIN.then(x -> {
            x.boat(50, 5, 1, 1);
            for (int i = 0; i < count; i++) {
                x.away(i % 2 == 0 ? 0 : 3, 3 * i, 3 * i + 2);
            }
        });
    }

    // "or there are 60 SPANS": of all boats together.
    private static void thereAreSixtySpans() {
        for (int count : new int[] {0, 58, 59}) {
            spans(count).answers("the span behind " + count, x -> away(x, 0, 390, 400), 1);
            spans(count).then(x -> x.away(0, 390, 400)).answers("how many", x -> x.about(3), count + 1);
        }
        spans(60).refuses("the 61st span", x -> away(x, 0, 390, 400), 0);
        spans(60).refuses("the 61st span, of another boat", x -> away(x, 3, 390, 400), 0);
        spans(60).answers("there are 60", x -> x.about(3), 60);
        spans(60).answers("the 60th", x -> x.lies(1, 178), -1);
        spans(60).answers("behind the 60th", x -> x.lies(1, 179), 3);
    }

    // "the SPAN ends at that DAY; if that is its first, it goes away": then there are 59.
    private static void aSpanThatWentMakesRoom() {
        Scene went = spans(60).then(x -> x.home(0, 0));
        went.answers("there are 59", x -> x.about(3), 59);
        went.answers("the 60th anew", x -> away(x, 0, 390, 400), 1);
        went.then(x -> x.away(0, 390, 400)).refuses("the 61st anew", x -> away(x, 3, 390, 400), 0);
        Scene ended = spans(60).then(x -> x.home(0, 1));
        ended.answers("there are 60", x -> x.about(3), 60);
        ended.refuses("one that ended is there", x -> away(x, 0, 390, 400), 0);
    }

    // "A BOAT with a HOME is there on all nights but those of its SPANS AWAY (from a DAY on, to the
    // one ahead of another DAY)."
    private static void atHomeButForItsSpans() {
        int[][] spans = {{0, 1}, {0, 400}, {10, 20}, {398, 399}, {399, 400}};
        for (int[] span : spans) {
            Scene one = PLAIN.then(x -> x.away(0, span[0], span[1]));
            for (int day : new int[] {0, span[0] - 1, span[0], span[1] - 1, span[1], 399}) {
                boolean isAway = span[0] <= day && day < span[1];
                int berth = isAway || day < 0 || day > 399 ? -1 : 0;
                one.answers("lies on " + day, x -> x.lies(0, day), berth);
                if (day >= 0) {
                    one.answers("its berth on " + day, x -> x.boatOf(0, 100 + day), berth);
                }
            }
        }
    }

    // "A BOAT without a HOME lies there ..: the STAY's number. NONE: others".
    private static void stayTakesABoatWithoutAHome() {
        Scene visitors = new Scene(DUE, x -> {
            x.berth(50, 5);
            x.boat(50, 5, 1, -1);
            x.boat(50, 5, 1, -1);
        });
        visitors.takes("stay(boat, 3, 5)", 0, 1, (x, boat) -> x.stay(boat, 3, 5), 0, -1);
        PLAIN.refuses("stay(0, 3, 5), with a home", x -> x.stay(0, 3, 5), -1);
        PLAIN.then(x -> x.away(0, 0, 400)).refuses("with a home, away", x -> x.stay(0, 3, 5), -1);
        new Scene(DUE, x -> x.berth(50, 5)).refuses("stay(0, 3, 5) without boats", x -> x.stay(0, 3, 5), -1);
    }

    // "from a DAY on": 0 .. 399.
    private static void stayBeginsOnADay() {
        PLAIN.takes("stay(1, from, 400)", 0, 399, (x, from) -> x.stay(1, from, 400), 0, -1);
        PLAIN.then(x -> x.stay(1, 399, 400)).answers("its first day", x -> x.stayOf(0, 2), 399);
        PLAIN.then(x -> x.stay(1, 0, 400)).answers("its first day", x -> x.stayOf(0, 2), 0);
    }

    // "to the one ahead of another": 1 .. 400.
    private static void stayEndsAheadOfADay() {
        PLAIN.takes("stay(1, 0, to)", 1, 400, (x, to) -> x.stay(1, 0, to), 0, -1);
        PLAIN.takes("stay(1, 399, to)", 400, 400, (x, to) -> x.stay(1, 399, to), 0, -1);
        PLAIN.then(x -> x.stay(1, 0, 400)).answers("its end", x -> x.stayOf(0, 3), 400);
        PLAIN.then(x -> x.stay(1, 0, 1)).answers("its end", x -> x.stayOf(0, 3), 1);
    }

    // "from a DAY on to the one ahead of another": a stay without a night is none.
    private static void stayHasANight() {
        for (int day : new int[] {0, 1, 200, 399, 400}) {
            PLAIN.refuses("stay(1, d, d) of " + day, x -> x.stay(1, day, day), -1);
            PLAIN.refuses("stay(1, d + 1, d) of " + day, x -> x.stay(1, day + 1, day), -1);
        }
        PLAIN.answers("one night", x -> x.stay(1, 200, 201), 0);
        PLAIN.refuses("stay(1, max, min)", x -> x.stay(1, Integer.MAX_VALUE, Integer.MIN_VALUE), -1);
        PLAIN.refuses("stay(1, min, max)", x -> x.stay(1, Integer.MIN_VALUE, Integer.MAX_VALUE), -1);
    }

    // "it has a STAY on one of these nights"; "A BOAT may have several STAYS, none on one night".
    private static void aBoatHasOneStayOnANight() {
        Scene one = PLAIN.then(x -> {
            x.away(0, 0, 400);
            x.stay(1, 10, 20);
        });
        one.answers("up to its first night", x -> x.stay(1, 5, 10), 1);
        one.refuses("its first night", x -> x.stay(1, 5, 11), -1);
        one.refuses("its first night alone", x -> x.stay(1, 10, 11), -1);
        one.refuses("its last night", x -> x.stay(1, 19, 25), -1);
        one.refuses("its last night alone", x -> x.stay(1, 19, 20), -1);
        one.answers("from its end on", x -> x.stay(1, 20, 25), 1);
        one.refuses("inside", x -> x.stay(1, 11, 19), -1);
        one.refuses("the same", x -> x.stay(1, 10, 20), -1);
        one.refuses("around", x -> x.stay(1, 9, 21), -1);
        one.answers("another boat may", x -> x.stay(2, 9, 21), 1);
        one.then(x -> x.stay(2, 9, 21)).answers("beside it", x -> x.stayOf(1, 1), 1);
    }

    // Low water on day 4 of every 8, when berth 0 is too shallow and berth 1 just deep enough.
    private static final Scene LOW = new Scene(DUE, x -> {
        x.levels(8);
        for (int k = 0; k < 8; k++) {
            x.level(k, k == 4 ? 2 : 3);
        }
        x.berth(50, 2);
        x.berth(50, 3);
        x.boat(50, 5, 1, -1);
        x.boat(50, 6, 1, -1);
    });

    private static int berthOfStay(SmallHarbour x, int boat, int from, int to) {
        return x.stayOf(x.stay(boat, from, to), 1);
    }

    // "at a BERTH for all these nights, at which it FITS on each".
    private static void stayFitsOnEachOfItsNights() {
        LOW.answers("up to the low water", x -> berthOfStay(x, 0, 1, 4), 0);
        LOW.answers("its last night is that of the low water", x -> berthOfStay(x, 0, 1, 5), 1);
        LOW.answers("its only night", x -> berthOfStay(x, 0, 4, 5), 1);
        LOW.answers("its first night", x -> berthOfStay(x, 0, 4, 8), 1);
        LOW.answers("a night inside", x -> berthOfStay(x, 0, 3, 6), 1);
        LOW.answers("behind the low water", x -> berthOfStay(x, 0, 5, 8), 0);
        LOW.answers("up to the next", x -> berthOfStay(x, 0, 5, 12), 0);
        LOW.answers("its last night is that of the next", x -> berthOfStay(x, 0, 5, 13), 1);
        LOW.answers("all nights", x -> berthOfStay(x, 0, 0, 400), 1);
        LOW.answers("up to the last low water", x -> berthOfStay(x, 0, 389, 396), 0);
        LOW.answers("the last nights", x -> berthOfStay(x, 0, 397, 400), 0);
        LOW.answers("a deeper boat", x -> berthOfStay(x, 1, 5, 12), 1);
        LOW.refuses("a deeper boat, low water on its last night", x -> x.stay(1, 5, 13), -1);
        LOW.refuses("a deeper boat, low water on its first night", x -> x.stay(1, 4, 6), -1);
    }

    // ".. and which nobody else has on any": another stay.
    private static void nobodyElseHasItsBerth() {
        Scene one = new Scene(DUE, x -> {
            x.berth(50, 5);
            x.boat(50, 5, 1, -1);
            x.boat(50, 5, 1, -1);
            x.stay(0, 10, 20);
        });
        one.answers("up to its first night", x -> x.stay(1, 5, 10), 1);
        one.refuses("its first night", x -> x.stay(1, 5, 11), -1);
        one.refuses("its last night", x -> x.stay(1, 19, 25), -1);
        one.answers("from its end on", x -> x.stay(1, 20, 25), 1);
        one.refuses("inside", x -> x.stay(1, 14, 15), -1);
        one.refuses("around", x -> x.stay(1, 0, 400), -1);
    }

    // ".. and which nobody else has on any": the boat whose home it is.
    private static void theOwnerIsAwayOnEachOfItsNights() {
        Scene home = new Scene(DUE, x -> {
            x.berth(50, 5);
            x.boat(50, 5, 1, 0);
            x.boat(50, 5, 1, -1);
            x.away(0, 10, 20);
            x.away(0, 20, 30);
            x.away(0, 31, 40);
        });
        home.answers("a whole span", x -> x.stay(1, 10, 20), 0);
        home.refuses("a night ahead of it", x -> x.stay(1, 9, 20), -1);
        home.refuses("that night alone", x -> x.stay(1, 9, 10), -1);
        home.answers("two spans that touch", x -> x.stay(1, 10, 30), 0);
        home.refuses("a night behind them", x -> x.stay(1, 10, 31), -1);
        home.refuses("over the night between two", x -> x.stay(1, 29, 32), -1);
        home.answers("from the next on", x -> x.stay(1, 31, 40), 0);
        home.refuses("a night behind the last", x -> x.stay(1, 39, 41), -1);
        Scene never = PLAIN.then(x -> x.stay(1, 0, 400));
        never.answers("it took the berth beside the home", x -> x.stayOf(0, 1), 1);
        never.refuses("the owner is never away", x -> x.stay(2, 399, 400), -1);
    }

    // "at the first BERTH that can be".
    private static void stayTakesTheFirstBerthThatCanBe() {
        Scene ten = new Scene(DUE, x -> {
            for (int i = 0; i < 10; i++) {
                x.berth(20 + i, 5);
            }
            for (int i = 0; i < 11; i++) {
                x.boat(20 + i, 5, 1, -1);
            }
            x.boat(10, 5, 1, -1);
        });
        for (int i = 0; i < 10; i++) {
            int boat = i;
            ten.answers("the shortest that is long enough, " + i, x -> berthOfStay(x, boat, 3, 5), boat);
        }
        ten.refuses("too long for each", x -> x.stay(10, 3, 5), -1);
        ten.answers("the first of all", x -> berthOfStay(x, 11, 3, 5), 0);
        ten.then(x -> x.stay(0, 4, 9)).answers("the second, if that is taken", x -> berthOfStay(x, 11, 3, 5), 1);
        ten.then(x -> x.stay(1, 4, 9)).answers("the first, if the second is taken", x -> berthOfStay(x, 11, 3, 5), 0);
    }

    // "there is no such BERTH".
    private static void thereIsNoSuchBerth() {
        Scene none = new Scene(DUE, x -> x.boat(50, 5, 1, -1));
        none.refuses("without berths", x -> x.stay(0, 0, 1), -1);
        none.then(x -> x.berth(49, 5)).refuses("too short by one", x -> x.stay(0, 0, 1), -1);
        none.then(x -> x.berth(50, 4)).refuses("too shallow by one", x -> x.stay(0, 0, 1), -1);
        none.then(x -> x.berth(50, 5)).answers("just so", x -> x.stay(0, 0, 1), 0);
    }

    private static Scene stays(int count) {
        return PLAIN.then(x -> {
            for (int i = 0; i < count; i++) {
                x.stay(1 + i % 2, 2 * i, 2 * i + 2);
            }
        });
    }

    // "STAYS 0 .. 39"; "or there are 40".
    private static void thereAreFortyStays() {
        for (int i = 0; i < 40; i++) {
            stays(i).answers("stay " + i, x -> x.stay(1, 390, 400), i);
        }
        stays(40).refuses("the 41st stay", x -> x.stay(1, 390, 400), -1);
        stays(40).answers("there are 40", x -> x.about(2), 40);
        stays(40).answers("the last's first day", x -> x.stayOf(39, 2), 78);
        stays(40).then(x -> x.leaves(0, 1)).refuses("one that left is one still", x -> x.stay(1, 390, 400), -1);
    }

    // "A STAY ends ahead of a DAY ..: true. False for others": its number.
    private static void leavesTakesAStay() {
        Scene two = PLAIN.then(x -> {
            x.stay(1, 10, 20);
            x.stay(1, 20, 30);
            x.leaves(1, 25);
        });
        two.refuses("the one ahead of the first", x -> Scene.bit(x.leaves(-1, 15)), 0);
        two.answers("the first", x -> Scene.bit(x.leaves(0, 15)), 1);
        two.answers("the last", x -> Scene.bit(x.leaves(1, 24)), 1);
        two.refuses("the one behind the last", x -> Scene.bit(x.leaves(2, 15)), 0);
        two.refuses("leaves(min, 15)", x -> Scene.bit(x.leaves(Integer.MIN_VALUE, 15)), 0);
        two.refuses("leaves(max, 15)", x -> Scene.bit(x.leaves(Integer.MAX_VALUE, 15)), 0);
        PLAIN.refuses("leaves(0, 15) without stays", x -> Scene.bit(x.leaves(0, 15)), 0);
        stays(40).answers("the 40th", x -> Scene.bit(x.leaves(39, 79)), 1);
        stays(40).refuses("the 41st", x -> Scene.bit(x.leaves(40, 79)), 0);
    }

    // "(one of its nights, not its first)".
    private static void leavesOnOneOfItsNightsNotItsFirst() {
        Scene one = PLAIN.then(x -> x.stay(1, 10, 20));
        one.takes("leaves(0, day)", 11, 19, (x, day) -> Scene.bit(x.leaves(0, day)), 1, 0);
        one.refuses("its end", x -> Scene.bit(x.leaves(0, 20)), 0);
        one.refuses("its first night", x -> Scene.bit(x.leaves(0, 10)), 0);
        one.refuses("the day ahead of it", x -> Scene.bit(x.leaves(0, 9)), 0);
        Scene night = PLAIN.then(x -> x.stay(1, 0, 1));
        night.refuses("of one night, day 0", x -> Scene.bit(x.leaves(0, 0)), 0);
        night.refuses("of one night, day 1", x -> Scene.bit(x.leaves(0, 1)), 0);
        Scene all = PLAIN.then(x -> x.stay(1, 0, 400));
        all.takes("of all nights, leaves(0, day)", 1, 399, (x, day) -> Scene.bit(x.leaves(0, day)), 1, 0);
        Scene shorter = one.then(x -> x.leaves(0, 15));
        shorter.takes("once shorter, leaves(0, day)", 11, 14, (x, day) -> Scene.bit(x.leaves(0, day)), 1, 0);
    }

    // "A STAY ends ahead of a DAY".
    private static void leavesGivesTheNightsBack() {
        Scene left = PLAIN.then(x -> {
            x.stay(1, 10, 20);
            x.leaves(0, 15);
        });
        left.answers("its end", x -> x.stayOf(0, 3), 15);
        left.answers("its first day", x -> x.stayOf(0, 2), 10);
        left.answers("its last night", x -> x.lies(1, 14), 1);
        left.answers("the next night", x -> x.lies(1, 15), -1);
        left.refuses("its last night for another", x -> x.stay(2, 14, 20), -1);
        left.answers("the next night for another", x -> x.stay(2, 15, 20), 1);
        left.answers("the next night for itself", x -> x.stay(1, 15, 20), 1);
    }

    // "Of a STAY: .. NONE for others": its number.
    private static void stayOfTellsOfAStay() {
        Scene two = PLAIN.then(x -> {
            x.stay(1, 10, 20);
            x.stay(1, 20, 30);
        });
        two.takes("stayOf(s, 0)", 0, 1, (x, s) -> x.stayOf(s, 0), 1, -1);
        PLAIN.refuses("stayOf(0, 0) without stays", x -> x.stayOf(0, 0), -1);
        stays(40).answers("the 40th", x -> x.stayOf(39, 3), 80);
        stays(40).answers("the 41st", x -> x.stayOf(40, 3), -1);
    }

    // "0 BOAT, 1 BERTH, 2 first DAY, 3 the DAY ahead of which it ends, 4 its BILL. NONE for others."
    private static void stayOfTellsFiveThings() {
        Scene one = PLAIN.then(x -> {
            x.stay(2, 10, 25);
            Texts.rule(x, "0-2000*1000", 0);
        });
        one.answers("what -1", x -> x.stayOf(0, -1), -1);
        one.answers("its boat", x -> x.stayOf(0, 0), 2);
        one.answers("its berth", x -> x.stayOf(0, 1), 1);
        one.answers("its first day", x -> x.stayOf(0, 2), 10);
        one.answers("its end", x -> x.stayOf(0, 3), 25);
        one.answers("its bill, which may be any number", x -> x.stayOf(0, 4), -2000000);
        one.answers("what 5", x -> x.stayOf(0, 5), -1);
        one.refuses("what min", x -> x.stayOf(0, Integer.MIN_VALUE), -1);
        one.refuses("what max", x -> x.stayOf(0, Integer.MAX_VALUE), -1);
    }

    // "The BOAT that lies at a BERTH on a night. NONE if there is none such."
    private static void liesTakesABerthAndADay() {
        Scene homes = new Scene(DUE, x -> {
            x.berth(50, 5);
            x.berth(50, 5);
            x.boat(50, 5, 1, 0);
            x.boat(50, 5, 1, 1);
        });
        homes.takes("lies(0, day)", 0, 399, (x, day) -> x.lies(0, day), 0, -1);
        homes.takes("lies(1, day)", 0, 399, (x, day) -> x.lies(1, day), 1, -1);
        for (int berth : new int[] {-1, 2, 9, 10, Integer.MIN_VALUE, Integer.MAX_VALUE}) {
            homes.refuses("lies(" + berth + ", 7)", x -> x.lies(berth, 7), -1);
        }
        PLAIN.answers("an empty berth", x -> x.lies(1, 7), -1);
        new Scene(DUE, x -> { }).refuses("lies(0, 0) without berths", x -> x.lies(0, 0), -1);
    }

    // "STAYS ..: from a DAY on to the one ahead of another DAY, at a BERTH for all these nights".
    private static void liesOnTheNightsOfAStay() {
        int[][] stays = {{0, 1}, {0, 400}, {10, 20}, {399, 400}};
        for (int[] it : stays) {
            Scene one = PLAIN.then(x -> x.stay(2, it[0], it[1]));
            for (int day : new int[] {0, it[0] - 1, it[0], it[1] - 1, it[1], 399}) {
                boolean isThere = it[0] <= day && day < it[1];
                one.answers("lies(1, " + day + ")", x -> x.lies(1, day), isThere ? 2 : -1);
                if (day >= 0) {
                    one.answers("boatOf(2, 100 + " + day + ")", x -> x.boatOf(2, 100 + day), isThere ? 1 : -1);
                    one.answers("boatOf(1, 100 + " + day + ")", x -> x.boatOf(1, 100 + day), -1);
                }
            }
        }
    }
}
