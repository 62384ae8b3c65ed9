/**
 * The boundary cases of promises 9 (home) and 10 (moved), and of HOME EARLY in the terms. The
 * comment ahead of each test is the sentence that it holds the class to.
 */
public final class HomeBoundsTest {
    private static final Due DUE = new Due();
    private static final Scene BUSY = new Scene(DUE, Scenes::busy);

    // Boat 0 is away from its berth 0; berth 1 is free; boats 1 and 2 are visitors.
    private static final Scene PLAIN = new Scene(DUE, x -> {
        x.berth(50, 5);
        x.boat(50, 5, 1, 0);
        x.boat(50, 5, 1, -1);
        x.boat(50, 5, 1, -1);
        x.away(0, 10, 100);
    });

    // .. and a visitor that is too deep for all berths but boat 0's.
    private static final Scene DEEP = BUSY.then(x -> {
        x.boat(100, 12, 1, -1);
        x.stay(5, 31, 35);
    });

    public static void main(String[] args) {
        homeTakesABoatThatIsAway();
        homeTakesADayOnWhichItIsAway();
        theSpanEndsAtThatDay();
        theSpanGoesAwayOnItsFirstDay();
        theOthersStayWhenASpanGoes();
        otherSpansStay();
        staysFromThatDayOnMustMove();
        aStayThatBeginsThenOrLaterIsMovedWhole();
        newStaysComeBehindAllOthers();
        anotherBerthMustFitFromThatDayOn();
        anotherBerthMustBeFreeFromThatDayOn();
        othersMayBeMovedToo();
        eachStayIsMovedOnce();
        theFewestMoves();
        theFirstByBerthsOfTheStays();
        oneThatIsNotMovedCountsAsItsOwnBerth();
        noWayChangesNothing();
        twelveStaysAreNotSpent();
        fiftyThousandTriesAreNotSpent();
        aTryFitsAndMeetsNobodyAtHome();
        aTryMeetsNoStayAheadOfIt();
        asManyMovedIsNotGoneOnWith();
        moreMovedIsNotGoneOnWith();
        fortyStaysAreNotTooMany();
        tooManyOnlyIfThereIsAWay();
        movedTellsSoManyMoves();
        movedTellsThreeParts();
        movedIsOfTheLatestThatToldANumber();
        movesOfNoneAreNone();
        eachGoesByWhatIsThereThen();
        DUE.finish();
    }

    /** The stays of PLAIN from day to day, all of them at berth 0, and then a free berth 1. */
    private static Scene plain(int... days) {
        return PLAIN.then(x -> {
            for (int i = 0; i + 1 < days.length; i += 2) {
                x.stay(1, days[i], days[i + 1]);
            }
            x.berth(50, 5);
        });
    }

    // "A BOAT comes HOME EARLY ..: how many MOVES. NONE, changing nothing: others": its number.
    private static void homeTakesABoatThatIsAway() {
        Scene two = new Scene(DUE, x -> {
            x.berth(50, 5);
            x.berth(50, 5);
            x.boat(50, 5, 1, 0);
            x.boat(50, 5, 1, 1);
            x.away(0, 10, 20);
            x.away(1, 10, 20);
        });
        two.takes("home(boat, 15)", 0, 1, (x, boat) -> x.home(boat, 15), 0, -1);
        plain(20, 30).refuses("a visitor, while it is there", x -> x.home(1, 25), -1);
        plain(20, 30).refuses("a visitor, while it is not", x -> x.home(1, 35), -1);
        BUSY.refuses("one that is at home", x -> x.home(1, 50), -1);
        new Scene(DUE, x -> { }).refuses("home(0, 0) without boats", x -> x.home(0, 0), -1);
    }

    // "on a DAY on which it is AWAY".
    private static void homeTakesADayOnWhichItIsAway() {
        plain().takes("home(0, day) without stays", 10, 99, (x, day) -> x.home(0, day), 0, -1);
        Scene always = new Scene(DUE, x -> {
            x.berth(50, 5);
            x.boat(50, 5, 1, 0);
            x.away(0, 0, 400);
        });
        always.takes("always away: home(0, day)", 0, 399, (x, day) -> x.home(0, day), 0, -1);
        Scene twice = plain(20, 30).then(x -> x.away(0, 101, 110));
        twice.answers("the last night of a span", x -> x.home(0, 99), 0);
        twice.refuses("the night between two spans", x -> x.home(0, 100), -1);
        twice.answers("the first night of the next", x -> x.home(0, 101), 0);
        plain().then(x -> x.home(0, 50)).refuses("the day that it came home on", x -> x.home(0, 50), -1);
        plain().then(x -> x.home(0, 50)).answers("the night ahead of that", x -> x.home(0, 49), 0);
    }

    // "a BOAT is at HOME from a DAY on ..(the SPAN ends at that DAY".
    private static void theSpanEndsAtThatDay() {
        for (int day : new int[] {11, 12, 50, 98, 99}) {
            Scene back = plain().then(x -> x.home(0, day));
            back.answers("the span is there, " + day, x -> x.about(3), 1);
            back.answers("away on its first night", x -> x.lies(0, 10), -1);
            back.answers("away the night ahead of " + day, x -> x.lies(0, day - 1), -1);
            back.answers("at home on " + day, x -> x.lies(0, day), 0);
            back.answers("at home on the last night", x -> x.lies(0, 99), 0);
            back.answers("away again from " + day + " on", x -> Scene.bit(x.away(0, day, 100)), 1);
            back.answers("not the night ahead of it", x -> Scene.bit(x.away(0, day - 1, 100)), 0);
        }
    }

    // "if that is its first, it goes away".
    private static void theSpanGoesAwayOnItsFirstDay() {
        Scene back = plain().then(x -> x.home(0, 10));
        back.answers("no span", x -> x.about(3), 0);
        back.answers("at home on its first night", x -> x.lies(0, 10), 0);
        back.answers("at home on its last night", x -> x.lies(0, 99), 0);
        back.answers("away as before", x -> Scene.bit(x.away(0, 10, 100)), 1);
        Scene night = plain().then(x -> {
            x.away(0, 200, 201);
            x.home(0, 200);
        });
        night.answers("a span of one night goes", x -> x.about(3), 1);
        night.answers("at home on it", x -> x.lies(0, 200), 0);
        night.answers("the other span stays", x -> x.lies(0, 10), -1);
    }

    // The same: it alone, wherever it stands among the spans of all boats.
    private static void theOthersStayWhenASpanGoes() {
        int[][] spans = {{0, 10, 20}, {1, 11, 21}, {0, 30, 40}, {1, 31, 41}};
        Scene four = new Scene(DUE, x -> {
            x.berth(50, 5);
            x.berth(50, 5);
            x.boat(50, 5, 1, 0);
            x.boat(50, 5, 1, 1);
            for (int[] span : spans) {
                x.away(span[0], span[1], span[2]);
            }
        });
        for (int[] gone : spans) {
            Scene three = four.then(x -> x.home(gone[0], gone[1]));
            three.answers("three are left", x -> x.about(3), 3);
            for (int[] span : spans) {
                for (int day : new int[] {span[1] - 1, span[1], span[2] - 1, span[2]}) {
                    boolean isAway = span != gone && span[1] <= day && day < span[2];
                    String name = "span of boat " + gone[0] + " from " + gone[1] + " gone: on " + day;
                    three.answers(name, x -> x.lies(span[0], day), isAway ? -1 : span[0]);
                }
            }
        }
    }

    // "though its SPAN AWAY would go on": that span alone, also where another one touches it.
    private static void otherSpansStay() {
        Scene touching = plain().then(x -> {
            x.away(0, 100, 110);
            x.away(0, 0, 10);
            x.home(0, 50);
        });
        touching.answers("three spans", x -> x.about(3), 3);
        touching.answers("the one ahead", x -> x.lies(0, 9), -1);
        touching.answers("it", x -> x.lies(0, 49), -1);
        touching.answers("at home from then on", x -> x.lies(0, 50), 0);
        touching.answers("at home to its end", x -> x.lies(0, 99), 0);
        touching.answers("the one behind", x -> x.lies(0, 100), -1);
        touching.answers("to its last night", x -> x.lies(0, 109), -1);
        touching.answers("at home behind that", x -> x.lies(0, 110), 0);
    }

    // "STAYS that have its BERTH on a night from that DAY on must move".
    private static void staysFromThatDayOnMustMove() {
        plain(20, 30).answers("its last night is the one ahead", x -> x.home(0, 30), 0);
        plain(20, 30).answers("its last night is that of the day", x -> x.home(0, 29), 1);
        plain(20, 30).answers("its first night", x -> x.home(0, 20), 1);
        plain(20, 30).answers("it begins on the next day", x -> x.home(0, 19), 1);
        plain(20, 30, 40, 50).answers("both", x -> x.home(0, 29), 2);
        plain(20, 30, 40, 50).answers("the later one", x -> x.home(0, 30), 1);
        plain(20, 30, 40, 50).answers("none of them", x -> x.home(0, 50), 0);
        plain(99, 100).answers("on the last night of the span", x -> x.home(0, 99), 1);
        plain(20, 30).then(x -> x.home(0, 30)).answers("one that is past stays", x -> x.lies(0, 29), 1);
    }

    // "a MOVE gives a STAY another BERTH: for all its nights if it begins on that DAY or later; else
    // the nights from that DAY on are a STAY of their own (..), the former one ends there".
    private static void aStayThatBeginsThenOrLaterIsMovedWhole() {
        for (int day : new int[] {10, 19, 20}) {
            Scene whole = plain(20, 30).then(x -> x.home(0, day));
            whole.answers("one stay, home on " + day, x -> x.about(2), 1);
            whole.answers("its berth", x -> x.stayOf(0, 1), 1);
            whole.answers("its first day", x -> x.stayOf(0, 2), 20);
            whole.answers("its end", x -> x.stayOf(0, 3), 30);
            whole.answers("it is the same", x -> x.moved(0, 2), 0);
        }
        for (int day : new int[] {21, 22, 28, 29}) {
            Scene split = plain(20, 30).then(x -> x.home(0, day));
            split.answers("two stays, home on " + day, x -> x.about(2), 2);
            split.answers("the former's berth", x -> x.stayOf(0, 1), 0);
            split.answers("the former's first day", x -> x.stayOf(0, 2), 20);
            split.answers("the former's end", x -> x.stayOf(0, 3), day);
            split.answers("the new one's boat", x -> x.stayOf(1, 0), 1);
            split.answers("the new one's berth", x -> x.stayOf(1, 1), 1);
            split.answers("the new one's first day", x -> x.stayOf(1, 2), day);
            split.answers("the new one's end", x -> x.stayOf(1, 3), 30);
            split.answers("the former was moved", x -> x.moved(0, 0), 0);
            split.answers("the new one is what it is now", x -> x.moved(0, 2), 1);
        }
        Scene last = plain(20, 30).then(x -> x.home(0, 30));
        last.answers("one stay, home on 30", x -> x.about(2), 1);
        last.answers("its end", x -> x.stayOf(0, 3), 30);
    }

    // "a STAY of their own (behind all others)".
    private static void newStaysComeBehindAllOthers() {
        BUSY.answers("two were moved", x -> x.about(8), 2);
        BUSY.answers("there were four", x -> x.about(2), 6);
        BUSY.answers("the first that was moved", x -> x.moved(0, 0), 1);
        BUSY.answers("is behind the last", x -> x.moved(0, 2), 4);
        BUSY.answers("the second that was moved", x -> x.moved(1, 0), 3);
        BUSY.answers("is behind that", x -> x.moved(1, 2), 5);
        BUSY.answers("boat of the fifth", x -> x.stayOf(4, 0), 3);
        BUSY.answers("boat of the sixth", x -> x.stayOf(5, 0), 2);
        BUSY.answers("the next stay", x -> x.stay(2, 200, 201), 6);
    }

    // "FITS on all its nights from that DAY on": the nights ahead of it are no matter.
    private static void anotherBerthMustFitFromThatDayOn() {
        Scene tide = new Scene(DUE, x -> {
            x.levels(30);
            for (int k = 0; k < 30; k++) {
                x.level(k, k == 5 || k == 15 ? 0 : 4);
            }
            x.berth(50, 5);
            x.boat(50, 5, 1, 0);
            x.boat(50, 5, 1, -1);
            x.away(0, 0, 100);
            x.stay(1, 2, 15);
            x.berth(50, 1);
        });
        tide.refuses("low water on its fourth night", x -> x.home(0, 5), -1);
        tide.answers("low water the night ahead", x -> x.home(0, 6), 1);
        tide.then(x -> x.stay(1, 30, 35)).answers("up to the next low water", x -> x.home(0, 20), 1);
        tide.then(x -> x.stay(1, 30, 36)).refuses("with the next low water", x -> x.home(0, 20), -1);
        Scene shallow = tide.then(x -> x.home(0, 6));
        shallow.answers("where it is then", x -> x.lies(1, 6), 1);
        shallow.answers("where it was ahead", x -> x.lies(0, 5), 1);
    }

    // "meets none that is at HOME and no STAY ahead of it": from that day on, ahead is no matter.
    private static void anotherBerthMustBeFreeFromThatDayOn() {
        Scene taken = PLAIN.then(x -> {
            x.stay(1, 20, 30);
            x.berth(50, 5);
            x.stay(2, 15, 25);
        });
        taken.answers("stay 1 is at", x -> x.stayOf(1, 1), 1);
        taken.refuses("the other one's last night", x -> x.home(0, 24), -1);
        taken.answers("the night behind that", x -> x.home(0, 25), 1);
        plain(20, 30, 30, 40).answers("two that touch, the later one behind", x -> x.home(0, 15), 2);
        plain(30, 40, 20, 30).answers("two that touch, the later one first", x -> x.home(0, 15), 2);
        Scene homes = PLAIN.then(x -> {
            x.stay(1, 20, 30);
            x.berth(50, 5);
            x.boat(50, 5, 1, 1);
            x.away(3, 25, 30);
        });
        homes.refuses("the other owner is at home still", x -> x.home(0, 24), -1);
        homes.answers("the other owner is away", x -> x.home(0, 25), 1);
        homes.then(x -> x.home(3, 29)).refuses("the other owner is back on the last night", x -> x.home(0, 25), -1);
    }

    // "Others may be moved, too, each STAY once, so that all is as it should be".
    private static void othersMayBeMovedToo() {
        Scene chain = new Scene(DUE, x -> {
            x.berth(90, 5);
            x.boat(90, 5, 1, 0);
            x.boat(90, 5, 1, -1);
            x.boat(80, 5, 1, -1);
            x.boat(70, 5, 1, -1);
            x.away(0, 0, 400);
            x.stay(1, 0, 10);
            x.berth(90, 5);
            x.stay(2, 0, 10);
            x.berth(80, 5);
            x.stay(3, 0, 10);
        });
        chain.refuses("the last has no berth", x -> x.home(0, 0), -1);
        Scene room = chain.then(x -> x.berth(70, 5));
        room.answers("three moves", x -> x.home(0, 0), 3);
        Scene done = room.then(x -> x.home(0, 0));
        for (int i = 0; i < 3; i++) {
            int s = i;
            done.answers("stay " + i, x -> x.stayOf(s, 1), s + 1);
        }
        chain.then(x -> x.berth(69, 5)).refuses("its berth is too short by one", x -> x.home(0, 0), -1);
    }

    // "each STAY once": two berths, each for a part of its nights, are no way.
    private static void eachStayIsMovedOnce() {
        Scene stay = PLAIN.then(x -> {
            x.stay(1, 20, 30);
            x.berth(50, 5);
            x.berth(50, 5);
            x.boat(50, 5, 1, 1);
            x.boat(50, 5, 1, 2);
        });
        for (int day : new int[] {21, 25, 29}) {
            Scene parts = stay.then(x -> {
                x.away(3, 20, day);
                x.away(4, day, 30);
            });
            parts.refuses("berth 1 to " + day + ", berth 2 from then on", x -> x.home(0, 20), -1);
            parts.answers("berth 2 for all nights from then on", x -> x.home(0, day), 1);
        }
        stay.then(x -> x.away(3, 20, 30)).answers("berth 1 for all nights", x -> x.home(0, 20), 1);
        stay.then(x -> x.away(4, 20, 30)).answers("berth 2 for all nights", x -> x.home(0, 20), 1);
    }

    // "the fewest MOVES": one, though the way of two comes first by berths.
    private static void theFewestMoves() {
        Scene scene = new Scene(DUE, x -> {
            x.berth(90, 5);
            x.berth(90, 5);
            x.berth(90, 5);
            x.boat(90, 5, 1, 2);
            x.boat(90, 5, 1, 1);
            x.boat(90, 5, 1, -1);
            x.boat(90, 5, 1, -1);
            x.stay(2, 20, 30);
            x.away(0, 10, 40);
            x.stay(3, 20, 30);
            x.berth(90, 5);
            x.away(1, 20, 30);
        });
        scene.answers("stay 0 is at", x -> x.stayOf(0, 1), 0);
        scene.answers("stay 1 is at", x -> x.stayOf(1, 1), 2);
        scene.answers("one move", x -> x.home(0, 20), 1);
        scene.then(x -> x.home(0, 20)).answers("stay 1 was moved", x -> x.moved(0, 0), 1);
        scene.then(x -> x.home(0, 20)).answers("to the first that is free", x -> x.moved(0, 1), 1);
        scene.then(x -> x.home(0, 20)).answers("stay 0 is left", x -> x.stayOf(0, 1), 0);
    }

    // "the first by the BERTHS of the STAYS as they were numbered": STAY 0's, then STAY 1's.
    private static void theFirstByBerthsOfTheStays() {
        Scene scene = new Scene(DUE, x -> {
            x.berth(90, 5);
            x.boat(90, 5, 1, 0);
            x.boat(90, 5, 1, -1);
            x.boat(80, 5, 1, -1);
            x.away(0, 0, 400);
            x.stay(1, 30, 40);
            x.stay(2, 20, 30);
            x.stay(1, 15, 20);
            x.berth(80, 5);
            x.berth(90, 5);
            x.berth(90, 5);
        });
        Scene done = scene.then(x -> x.home(0, 10));
        done.answers("three moves", x -> x.about(8), 3);
        done.answers("stay 0, the latest by its days, has the first that is long enough", x -> x.stayOf(0, 1), 2);
        done.answers("stay 1", x -> x.stayOf(1, 1), 1);
        done.answers("stay 2", x -> x.stayOf(2, 1), 2);
    }

    // "(one that isn't moved counts as its own BERTH)": lower than where it would go, or higher.
    private static void oneThatIsNotMovedCountsAsItsOwnBerth() {
        Scene lower = new Scene(DUE, x -> {
            x.berth(90, 5);
            x.boat(90, 5, 1, 0);
            x.boat(50, 5, 1, -1);
            x.boat(50, 5, 1, -1);
            x.boat(90, 5, 1, -1);
            x.berth(90, 5);
            x.berth(90, 5);
            x.stay(1, 20, 30);
            x.stay(2, 20, 30);
            x.away(0, 0, 400);
            x.stay(3, 20, 30);
            x.berth(50, 5);
            x.berth(50, 5);
            x.home(0, 20);
        });
        lower.answers("two moves", x -> x.about(8), 2);
        lower.answers("stay 0 is left at the lowest", x -> x.stayOf(0, 1), 1);
        lower.answers("stay 1 goes to the first of two", x -> x.stayOf(1, 1), 3);
        lower.answers("stay 2 takes its berth", x -> x.stayOf(2, 1), 2);

        Scene higher = new Scene(DUE, x -> {
            x.berth(90, 6);
            x.berth(50, 6);
            x.berth(90, 5);
            x.berth(90, 6);
            x.boat(90, 5, 1, 0);
            x.boat(50, 5, 1, 1);
            x.boat(50, 6, 1, -1);
            x.boat(50, 5, 1, -1);
            x.boat(90, 5, 1, -1);
            x.stay(2, 20, 30);
            x.stay(3, 20, 30);
            x.away(0, 0, 400);
            x.away(1, 0, 400);
            x.stay(4, 20, 30);
        });
        higher.answers("stay 0 is at", x -> x.stayOf(0, 1), 3);
        higher.answers("stay 1 is at", x -> x.stayOf(1, 1), 2);
        higher.answers("stay 2 is at", x -> x.stayOf(2, 1), 0);
        Scene done = higher.then(x -> x.home(0, 20));
        done.answers("two moves", x -> x.about(8), 2);
        done.answers("stay 0 goes lower", x -> x.stayOf(0, 1), 1);
        done.answers("stay 1 is left", x -> x.stayOf(1, 1), 2);
        done.answers("stay 2 takes its berth", x -> x.stayOf(2, 1), 3);
    }

    // "NONE, changing nothing: .. or no way".
    private static void noWayChangesNothing() {
        Scene none = PLAIN.then(x -> x.stay(1, 20, 30));
        none.refuses("no other berth, split", x -> x.home(0, 29), -1);
        none.refuses("no other berth, whole", x -> x.home(0, 20), -1);
        none.refuses("no other berth, on the span's first day", x -> x.home(0, 10), -1);
        none.then(x -> x.berth(49, 5)).refuses("too short by one", x -> x.home(0, 20), -1);
        none.then(x -> x.berth(50, 4)).refuses("too shallow by one", x -> x.home(0, 20), -1);
        none.then(x -> x.berth(50, 5)).answers("just so", x -> x.home(0, 20), 1);
        none.answers("behind it there is a way", x -> x.home(0, 30), 0);
        Scene kept = plain(20, 30).then(x -> {
            x.home(0, 25);
            x.stay(2, 15, 18);
            x.stay(1, 14, 17);
        });
        kept.answers("one move is kept", x -> x.moved(0, 2), 1);
        kept.refuses("two for one berth", x -> x.home(0, 12), -1);
        DEEP.refuses("of something of everything", x -> x.home(0, 32), -1);
    }

    // So many stays of one night each from day 20 on, all at the home's berth; one more that ends at
    // day 20, beside it, where a home() before has moved it.
    private static Scene besides(int count) {
        return PLAIN.then(x -> {
            x.stay(1, 10, 20);
            x.berth(50, 5);
            x.home(0, 12);
            x.away(0, 12, 100);
            for (int i = 0; i < count; i++) {
                x.stay(1, 20 + i, 21 + i);
            }
        });
    }

    // "SPENT: more than 12 STAYS have a night from that DAY on"; "-2, likewise": changing nothing.
    private static void twelveStaysAreNotSpent() {
        besides(11).answers("eleven", x -> x.home(0, 20), 11);
        besides(12).answers("twelve", x -> x.home(0, 20), 12);
        besides(13).refuses("thirteen", x -> x.home(0, 20), -2);
        besides(13).answers("twelve from the next day on", x -> x.home(0, 21), 12);
        besides(12).refuses("the thirteenth has its last night on that day", x -> x.home(0, 19), -2);
        besides(11).answers("the twelfth has its last night on that day", x -> x.home(0, 19), 11);
        Scene elsewhere = new Scene(DUE, x -> {
            x.berth(50, 5);
            x.boat(50, 5, 1, 0);
            x.away(0, 10, 20);
            x.berth(50, 5);
            x.boat(50, 5, 1, -1);
            for (int i = 0; i < 13; i++) {
                x.stay(1, 387 + i, 388 + i);
            }
        });
        elsewhere.refuses("none of thirteen would have to move", x -> x.home(0, 15), -2);
        elsewhere.refuses("thirteen, but that boat is not away", x -> x.home(0, 9), -1);
        besides(36).refuses("far more", x -> x.home(0, 12), -2);
    }

    /**
     * Stays on nights of their own, all at the home's berth, the i-th of which may go to one of
     * counts[i] berths. All ways have as many moves, so each berth of each stay is tried behind each
     * way of those ahead of it: a + ab + abc .. tries.
     */
    private static Scene allMustMove(int... counts) {
        return new Scene(DUE, x -> {
            x.berth(400, 5);
            for (int i = 0; i < 9; i++) {
                x.berth(190 - 10 * i, 5);
            }
            x.boat(400, 0, 1, 0);
            x.away(0, 0, 100);
            for (int i = 0; i < counts.length; i++) {
                x.boat(200 - 10 * counts[i], 0, 1, -1);
                x.stay(i + 1, 10 + i, 11 + i);
            }
        });
    }

    private static Scene tries49998() {
        return allMustMove(3, 5, 2, 9, 4, 5, 8);
    }

    private static Scene tries49999() {
        return allMustMove(1, 3, 5, 2, 9, 4, 5, 8);
    }

    private static Scene tries50000() {
        return allMustMove(5, 9, 3, 9, 4, 9);
    }

    private static Scene tries50001() {
        return allMustMove(1, 5, 9, 3, 9, 4, 9);
    }

    // "or more than 50,000 TRIES were needed"; "-2, likewise": changing nothing.
    private static void fiftyThousandTriesAreNotSpent() {
        tries49999().answers("49,999 tries", x -> x.home(0, 10), 8);
        tries50000().answers("50,000 tries", x -> x.home(0, 10), 6);
        tries50001().refuses("50,001 tries", x -> x.home(0, 10), -2);
        tries50001().refuses("50,001 tries, on the span's first day", x -> x.home(0, 0), -2);
        tries50001().answers("the first stay is past: 50,000 tries", x -> x.home(0, 11), 6);
        allMustMove(9, 9, 9, 9, 9, 9, 9, 9, 9, 9, 9, 9).answers("far more", x -> x.home(0, 10), -2);
    }

    // The long one fits the first berth beside the home alone, the other one the first two: on the
    // same nights, on which the owner is at home.
    private static void twoThatAreLeft(SmallHarbour x) {
        int first = x.boat(190, 0, 1, -1);
        int second = x.boat(180, 0, 1, -1);
        x.stay(first, 200, 203);
        x.stay(second, 200, 203);
    }

    // "a TRY is a BERTH at which a STAY of these FITS on all its nights .. and meets none that is at
    // HOME": of ten berths the first, where the owner is, and those that are too short are none.
    private static void aTryFitsAndMeetsNobodyAtHome() {
        Scene one = tries49999().then(x -> x.stay(x.boat(190, 0, 1, -1), 200, 203));
        one.answers("it is at", x -> x.stayOf(8, 1), 1);
        one.answers("one berth of it is tried: 50,000", x -> x.home(0, 10), 8);
        Scene two = tries49999().then(x -> {
            x.stay(x.boat(190, 0, 1, -1), 200, 203);
            x.stay(x.boat(190, 0, 1, -1), 203, 204);
        });
        two.refuses("one berth of two each: 50,001", x -> x.home(0, 10), -2);
    }

    // ".. and no STAY ahead of it (of these) as those were put".
    private static void aTryMeetsNoStayAheadOfIt() {
        tries49998().then(x -> twoThatAreLeft(x)).answers("two more tries: 50,000", x -> x.home(0, 10), 7);
        tries49999().then(x -> twoThatAreLeft(x)).refuses("two more tries: 50,001", x -> x.home(0, 10), -2);
    }

    // "each that is put goes on to the next STAY, unless more of them are moved already than in the
    // best way that was found (as many, too: a way later in this walk is no better)".
    private static void asManyMovedIsNotGoneOnWith() {
        Scene one = allMustMove(9, 9, 9, 9).then(x -> {
            for (int i = 0; i < 8; i++) {
                x.stay(x.boat(190, 0, 1, -1), 200 + i, 201 + i);
            }
        });
        one.answers("7,380 tries and eight, not eight behind each", x -> x.home(0, 10), 4);
    }

    // The same sentence: the first way has one move, all others have more.
    private static void moreMovedIsNotGoneOnWith() {
        Scene many = allMustMove(9).then(x -> {
            for (int i = 0; i < 11; i++) {
                x.stay(x.boat(110, 0, 1, -1), 200 + i, 201 + i);
            }
        });
        many.answers("one move of twelve stays, nine berths each", x -> x.home(0, 10), 1);
        many.then(x -> x.home(0, 10)).answers("it was moved", x -> x.moved(0, 0), 0);
        many.then(x -> x.home(0, 10)).answers("to the first berth", x -> x.moved(0, 1), 1);
    }

    // So many stays: two of three nights at the home's berth, the others past; a move was made before.
    private static Scene full(int count) {
        return PLAIN.then(x -> {
            x.stay(1, 10, 11);
            x.berth(50, 5);
            x.home(0, 10);
            x.away(0, 10, 400);
            for (int i = 3; i < count; i++) {
                x.stay(2, 10 + i, 11 + i);
            }
            x.stay(1, 100, 103);
            x.stay(1, 103, 106);
        });
    }

    // "-3: STAYS would be above 40": changing nothing.
    private static void fortyStaysAreNotTooMany() {
        full(38).answers("there are 38", x -> x.about(2), 38);
        full(38).answers("one of both is split", x -> x.home(0, 101), 2);
        full(38).then(x -> x.home(0, 101)).answers("39 then", x -> x.about(2), 39);
        full(39).answers("one of both is split", x -> x.home(0, 101), 2);
        full(39).then(x -> x.home(0, 101)).answers("40 then", x -> x.about(2), 40);
        full(39).then(x -> x.home(0, 101)).answers("it is the last", x -> x.moved(0, 2), 39);
        full(40).answers("there are 40", x -> x.about(2), 40);
        full(40).refuses("it would be the 41st", x -> x.home(0, 101), -3);
        full(40).refuses("it would be the 41st, on its last night", x -> x.home(0, 102), -3);
        full(40).answers("both whole", x -> x.home(0, 100), 2);
        full(40).answers("the first is past, the second whole", x -> x.home(0, 103), 1);
        full(40).refuses("the second would be split", x -> x.home(0, 104), -3);
        full(40).answers("all are past", x -> x.home(0, 106), 0);
    }

    // The same: two are split at once, with 38, 39 and 40 stays ahead of it.
    private static Scene twoToSplit(int count) {
        return new Scene(DUE, x -> {
            x.berth(90, 5);
            x.berth(90, 5);
            x.boat(90, 5, 1, 0);
            x.boat(90, 5, 1, -1);
            x.boat(50, 5, 1, -1);
            x.boat(50, 5, 1, -1);
            for (int i = 2; i < count; i++) {
                x.stay(3, i, i + 1);
            }
            x.stay(2, 100, 110);
            x.away(0, 90, 200);
            x.stay(1, 100, 110);
            x.berth(50, 5);
        });
    }

    // "-3: STAYS would be above 40", and NONE where there is no way at all.
    private static void tooManyOnlyIfThereIsAWay() {
        twoToSplit(38).answers("38 and two", x -> x.home(0, 105), 2);
        twoToSplit(38).then(x -> x.home(0, 105)).answers("40 then", x -> x.about(2), 40);
        twoToSplit(38).then(x -> x.home(0, 105)).answers("the last", x -> x.moved(1, 2), 39);
        twoToSplit(39).answers("there are 39", x -> x.about(2), 39);
        twoToSplit(39).refuses("39 and two", x -> x.home(0, 105), -3);
        twoToSplit(40).refuses("40 and two", x -> x.home(0, 105), -3);
        twoToSplit(40).answers("40 and none", x -> x.home(0, 100), 2);
        Scene noWay = twoToSplit(40).then(x -> x.boat(50, 5, 1, 2));
        noWay.refuses("no way, with 40", x -> x.home(0, 105), -1);
    }

    // "STAY i that was moved ..": 0 and on, as many as there were moves.
    private static void movedTellsSoManyMoves() {
        Scene three = plain(20, 30, 30, 40, 40, 50).then(x -> x.home(0, 15));
        for (int i = 0; i < 3; i++) {
            int it = i;
            three.answers("moved(" + i + ", 0)", x -> x.moved(it, 0), it);
        }
        for (int i : new int[] {-1, 3, 11, 12, Integer.MIN_VALUE, Integer.MAX_VALUE}) {
            three.refuses("moved(" + i + ", 0)", x -> x.moved(i, 0), -1);
            three.refuses("moved(" + i + ", 1)", x -> x.moved(i, 1), -1);
        }
        Scene twelve = besides(12).then(x -> x.home(0, 20));
        twelve.answers("the twelfth", x -> x.moved(11, 1), 1);
        twelve.answers("the thirteenth", x -> x.moved(12, 1), -1);
    }

    // "STAY i that was moved (rising, as they were numbered; part 0), the BERTH that it got (1), the
    // STAY that it is now (2). NONE if there is none such."
    private static void movedTellsThreeParts() {
        Scene two = plain(40, 50, 20, 30).then(x -> x.home(0, 25));
        two.answers("moved(0, 0)", x -> x.moved(0, 0), 0);
        two.answers("moved(0, 1)", x -> x.moved(0, 1), 1);
        two.answers("moved(0, 2), moved whole", x -> x.moved(0, 2), 0);
        two.answers("moved(1, 0)", x -> x.moved(1, 0), 1);
        two.answers("moved(1, 1)", x -> x.moved(1, 1), 1);
        two.answers("moved(1, 2), split", x -> x.moved(1, 2), 2);
        for (int part : new int[] {-1, 3, Integer.MIN_VALUE, Integer.MAX_VALUE}) {
            two.refuses("moved(0, " + part + ")", x -> x.moved(0, part), -1);
            two.refuses("moved(1, " + part + ")", x -> x.moved(1, part), -1);
        }
    }

    // "Of the latest home() that told a number": those that were refused are none.
    private static void movedIsOfTheLatestThatToldANumber() {
        new Scene(DUE, x -> { }).answers("ahead of any", x -> x.moved(0, 0), -1);
        Scene none = DEEP.then(x -> DUE.is("no way", x.home(0, 32), -1));
        none.answers("behind NONE", x -> x.moved(1, 0), 3);
        none.answers("behind NONE, how many", x -> x.about(8), 2);
        Scene spent = besides(13).then(x -> DUE.is("spent", x.home(0, 20), -2));
        spent.answers("behind -2", x -> x.moved(0, 2), 1);
        spent.answers("behind -2, how many", x -> x.about(8), 1);
        Scene tooMany = full(40).then(x -> DUE.is("too many", x.home(0, 101), -3));
        tooMany.answers("behind -3", x -> x.moved(0, 1), 1);
        tooMany.answers("behind -3, how many", x -> x.about(8), 1);
        Scene two = plain(20, 30, 40, 50).then(x -> {
            x.home(0, 35);
            x.home(0, 15);
        });
        two.answers("the later of two", x -> x.moved(0, 0), 0);
        two.answers("it alone", x -> x.moved(1, 0), -1);
    }

    // "STAYS that have its BERTH ..": each home() goes by the stays, nights and berths of its own.
    private static void eachGoesByWhatIsThereThen() {
        Scene crowded = new Scene(DUE, x -> {
            x.berth(90, 5);
            x.boat(90, 5, 1, 0);
            x.boat(50, 5, 1, -1);
            x.boat(50, 5, 1, -1);
            x.away(0, 0, 400);
            x.berth(50, 5);
            x.stay(1, 10, 20);
            x.stay(2, 10, 20);
            x.stay(1, 20, 30);
            x.stay(1, 30, 40);
        });
        crowded.refuses("two on the same nights, one berth", x -> x.home(0, 10), -1);
        Scene behind = crowded.then(x -> x.home(0, 10));
        behind.answers("none on the same night then", x -> x.home(0, 20), 2);
        Scene twice = crowded.then(x -> {
            x.home(0, 20);
            x.berth(50, 5);
        });
        twice.answers("room for the other", x -> x.home(0, 10), 1);
        twice.then(x -> x.home(0, 10)).answers("it goes there", x -> x.stayOf(0, 1), 2);
    }

    // "how many MOVES": none is a number, too, and then none are kept.
    private static void movesOfNoneAreNone() {
        Scene kept = plain(40, 50).then(x -> x.home(0, 45));
        kept.answers("one is kept", x -> x.about(8), 1);
        Scene behind = kept.then(x -> {
            x.away(0, 200, 210);
            DUE.is("no move", x.home(0, 205), 0);
        });
        behind.answers("none is kept", x -> x.about(8), 0);
        behind.answers("moved(0, 0)", x -> x.moved(0, 0), -1);
    }
}
