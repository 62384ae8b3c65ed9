/** Promises 9 (home) and 10 (moved). */
public final class HomeEarlyTest {
    private static final Due DUE = new Due();

    public static void main(String[] args) {
        homeRefusesOthers();
        homeWithoutStaysMovesNone();
        aStayIsSplitOrMovedWhole();
        othersAreMovedToo();
        theFewestMovesAreTaken();
        ofAsFewTheFirstByBerths();
        stayOfALaterSpanIsLeft();
        noWayChangesNothing();
        allTwelveAreMoved();
        otherSpansAreKept();
        moreThanTwelveStaysAreSpent();
        triesAreCounted();
        staysAboveFortyAreRefused();
        DUE.finish();
    }

    private static SmallHarbour harbour(int... lengths) {
        SmallHarbour x = new SmallHarbour();
        for (int length : lengths) {
            x.berth(length, 5);
        }
        return x;
    }

    private static void visitors(SmallHarbour x, int... lengths) {
        for (int length : lengths) {
            x.boat(length, 0, 1, -1);
        }
    }

    private static void homeRefusesOthers() {
        SmallHarbour x = harbour(50, 50);
        x.boat(50, 0, 1, 0);
        visitors(x, 50);
        x.away(0, 10, 20);
        DUE.is("no such boat", x.home(2, 10), -1);
        DUE.is("no such boat", x.home(-1, 10), -1);
        DUE.is("without a home", x.home(1, 10), -1);
        DUE.is("ahead of its span", x.home(0, 9), -1);
        DUE.is("behind its span", x.home(0, 20), -1);
        DUE.is("no such day", x.home(0, -1), -1);
        DUE.is("no such day", x.home(0, 400), -1);
        DUE.is("about(3)", x.about(3), 1);
    }

    private static void homeWithoutStaysMovesNone() {
        SmallHarbour x = harbour(50);
        x.boat(50, 0, 1, 0);
        x.away(0, 10, 20);
        DUE.is("home on its last night", x.home(0, 19), 0);
        DUE.is("lies(0, 18)", x.lies(0, 18), -1);
        DUE.is("lies(0, 19)", x.lies(0, 19), 0);
        DUE.is("about(3)", x.about(3), 1);
        DUE.is("home again", x.home(0, 19), -1);
        DUE.is("home on its first night", x.home(0, 10), 0);
        DUE.is("about(3): it is gone", x.about(3), 0);
        DUE.is("lies(0, 10)", x.lies(0, 10), 0);
        DUE.yes("away anew", x.away(0, 10, 20));
    }

    private static void aStayIsSplitOrMovedWhole() {
        SmallHarbour x = harbour(50, 50);
        x.boat(50, 0, 1, 0);
        visitors(x, 50, 50);
        x.away(0, 10, 30);
        x.stay(1, 12, 16);
        x.stay(2, 16, 18);
        DUE.is("home(0, 14)", x.home(0, 14), 2);
        DUE.is("moved(0, 0)", x.moved(0, 0), 0);
        DUE.is("moved(0, 1)", x.moved(0, 1), 1);
        DUE.is("moved(0, 2)", x.moved(0, 2), 2);
        DUE.is("moved(1, 0)", x.moved(1, 0), 1);
        DUE.is("moved(1, 1)", x.moved(1, 1), 1);
        DUE.is("moved(1, 2)", x.moved(1, 2), 1);
        DUE.is("moved(2, 0)", x.moved(2, 0), -1);
        DUE.is("moved(-1, 0)", x.moved(-1, 0), -1);
        DUE.is("moved(0, 3)", x.moved(0, 3), -1);
        DUE.is("moved(0, -1)", x.moved(0, -1), -1);
        DUE.is("former ends", x.stayOf(0, 3), 14);
        DUE.is("former berth", x.stayOf(0, 1), 0);
        DUE.is("new boat", x.stayOf(2, 0), 1);
        DUE.is("new berth", x.stayOf(2, 1), 1);
        DUE.is("new first day", x.stayOf(2, 2), 14);
        DUE.is("new end", x.stayOf(2, 3), 16);
        DUE.is("whole berth", x.stayOf(1, 1), 1);
        DUE.is("whole first day", x.stayOf(1, 2), 16);
        DUE.is("about(2)", x.about(2), 3);
        DUE.is("a home() that told none", x.home(0, 14), -1);
        DUE.is("about(8) as it was", x.about(8), 2);
        DUE.is("moved(1, 0) as it was", x.moved(1, 0), 1);
        DUE.is("home(0, 13)", x.home(0, 13), 1);
        DUE.is("about(8) anew", x.about(8), 1);
        DUE.is("moved(0, 2) anew", x.moved(0, 2), 3);
        DUE.is("moved(1, 0) anew", x.moved(1, 0), -1);
        DUE.is("lies(0, 12)", x.lies(0, 12), 1);
        DUE.is("home(0, 12)", x.home(0, 12), 1);
        DUE.is("a stay that begins on that day is moved whole", x.moved(0, 2), 0);
        DUE.is("home(0, 10)", x.home(0, 10), 0);
        DUE.is("about(8) of none", x.about(8), 0);
        DUE.is("moved(0, 0) of none", x.moved(0, 0), -1);
    }

    // The long visitor fits only where the short one is, who must go on.
    private static void othersAreMovedToo() {
        SmallHarbour x = harbour(60, 90, 90, 40);
        x.boat(50, 0, 1, 1);
        visitors(x, 40, 90, 90, 70);
        x.away(0, 0, 50);
        x.stay(2, 0, 40);
        x.stay(1, 0, 40);
        DUE.is("long one at", x.stayOf(0, 1), 1);
        DUE.is("short one at", x.stayOf(1, 1), 0);
        x.stay(3, 0, 10);
        DUE.is("other long one at", x.stayOf(2, 1), 2);
        x.stay(4, 20, 30);
        DUE.is("middle one at", x.stayOf(3, 1), 2);
        DUE.is("no way: both long ones need 2", x.home(0, 9), -1);
        DUE.is("nor for the middle one", x.home(0, 10), -1);
        x.berth(70, 5);
        DUE.is("the middle one goes on", x.home(0, 10), 2);
        DUE.is("moved(0, 0)", x.moved(0, 0), 0);
        DUE.is("moved(0, 1)", x.moved(0, 1), 2);
        DUE.is("moved(0, 2)", x.moved(0, 2), 4);
        DUE.is("moved(1, 0)", x.moved(1, 0), 3);
        DUE.is("moved(1, 1)", x.moved(1, 1), 4);
        DUE.is("moved(1, 2)", x.moved(1, 2), 3);
        DUE.is("lies(1, 10)", x.lies(1, 10), 0);
        DUE.is("lies(2, 25)", x.lies(2, 25), 2);
        DUE.is("lies(4, 25)", x.lies(4, 25), 4);
    }

    // Berth 0 would be the first for stay 0, but then the stay that is there must move, too.
    private static void theFewestMovesAreTaken() {
        SmallHarbour x = harbour(90, 90, 90);
        x.boat(90, 0, 1, 1);
        visitors(x, 90, 90);
        x.away(0, 0, 50);
        x.stay(1, 0, 20);
        x.stay(2, 0, 20);
        DUE.is("stay 1 at", x.stayOf(1, 1), 1);
        DUE.is("home(0, 5)", x.home(0, 5), 1);
        DUE.is("moved(0, 0)", x.moved(0, 0), 1);
        DUE.is("moved(0, 1)", x.moved(0, 1), 2);
        DUE.is("stay 0 is left", x.stayOf(0, 1), 0);
    }

    private static void ofAsFewTheFirstByBerths() {
        SmallHarbour x = harbour(90);
        x.boat(90, 0, 1, 0);
        visitors(x, 90, 90, 80);
        x.away(0, 0, 50);
        x.stay(1, 0, 10);
        x.stay(2, 10, 20);
        x.stay(3, 20, 30);
        x.berth(80, 5);
        x.berth(90, 5);
        x.berth(90, 5);
        DUE.is("home(0, 0)", x.home(0, 0), 3);
        DUE.is("stay 0 at", x.stayOf(0, 1), 2);
        DUE.is("stay 1 at", x.stayOf(1, 1), 2);
        DUE.is("stay 2 at", x.stayOf(2, 1), 1);
    }

    // Its berth is free again when the boat goes away again: nothing is amiss there.
    private static void stayOfALaterSpanIsLeft() {
        SmallHarbour x = harbour(90);
        x.boat(90, 0, 1, 0);
        visitors(x, 90, 90);
        x.away(0, 0, 10);
        x.away(0, 10, 20);
        x.stay(1, 2, 4);
        x.stay(2, 10, 14);
        x.berth(90, 5);
        DUE.is("home(0, 3)", x.home(0, 3), 1);
        DUE.is("moved(0, 0)", x.moved(0, 0), 0);
        DUE.is("stay 1 at", x.stayOf(1, 1), 0);
        DUE.is("lies(0, 9)", x.lies(0, 9), 0);
        DUE.is("lies(0, 10)", x.lies(0, 10), 2);
        DUE.is("about(3)", x.about(3), 2);
    }

    private static void noWayChangesNothing() {
        SmallHarbour x = harbour(90, 50);
        x.boat(90, 0, 1, 0);
        visitors(x, 90, 40);
        x.away(0, 0, 50);
        x.stay(1, 0, 10);
        DUE.is("home(0, 5)", x.home(0, 5), -1);
        DUE.is("home(0, 0)", x.home(0, 0), -1);
        DUE.is("about(2)", x.about(2), 1);
        DUE.is("about(3)", x.about(3), 1);
        DUE.is("its end", x.stayOf(0, 3), 10);
        DUE.is("lies(0, 5)", x.lies(0, 5), 1);
        DUE.is("lies(0, 40)", x.lies(0, 40), -1);
        DUE.is("behind the stay", x.home(0, 10), 0);
    }

    private static void allTwelveAreMoved() {
        SmallHarbour x = harbour(90);
        x.boat(90, 0, 1, 0);
        visitors(x, 90);
        x.away(0, 0, 50);
        for (int i = 0; i < 12; i++) {
            x.stay(1, 10 + i, 11 + i);
        }
        x.berth(90, 5);
        DUE.is("home(0, 9)", x.home(0, 9), 12);
        DUE.is("moved(11, 0)", x.moved(11, 0), 11);
        DUE.is("moved(11, 1)", x.moved(11, 1), 1);
        DUE.is("moved(12, 0)", x.moved(12, 0), -1);
    }

    private static void otherSpansAreKept() {
        SmallHarbour x = harbour(90, 90);
        x.boat(90, 0, 1, 0);
        x.boat(90, 0, 1, 1);
        x.away(0, 10, 20);
        x.away(1, 11, 21);
        x.away(0, 30, 40);
        x.away(1, 31, 41);
        DUE.is("the first span goes", x.home(0, 10), 0);
        DUE.is("about(3)", x.about(3), 3);
        DUE.is("lies(0, 15)", x.lies(0, 15), 0);
        DUE.is("lies(1, 11)", x.lies(1, 11), -1);
        DUE.is("lies(1, 20)", x.lies(1, 20), -1);
        DUE.is("lies(0, 30)", x.lies(0, 30), -1);
        DUE.is("lies(0, 39)", x.lies(0, 39), -1);
        DUE.is("lies(0, 40)", x.lies(0, 40), 0);
        DUE.is("lies(1, 30)", x.lies(1, 30), 1);
        DUE.is("lies(1, 31)", x.lies(1, 31), -1);
        DUE.is("lies(1, 40)", x.lies(1, 40), -1);
        DUE.is("the last span goes", x.home(1, 31), 0);
        DUE.is("about(3)", x.about(3), 2);
        DUE.is("lies(1, 35)", x.lies(1, 35), 1);
        DUE.is("lies(0, 35)", x.lies(0, 35), -1);
    }

    private static void moreThanTwelveStaysAreSpent() {
        SmallHarbour x = harbour(90, 90, 90);
        x.boat(90, 0, 1, 2);
        visitors(x, 90);
        x.away(0, 0, 50);
        for (int i = 0; i < 13; i++) {
            x.stay(1, 10 + i, 11 + i);
        }
        DUE.is("13 with a night from 10 on", x.home(0, 10), -2);
        DUE.is("about(3)", x.about(3), 1);
        DUE.is("lies(2, 11)", x.lies(2, 11), -1);
        DUE.is("12 with a night from 11 on", x.home(0, 11), 0);
        DUE.is("lies(2, 11)", x.lies(2, 11), 0);
    }

    /**
     * Stays that must all move, on nights of their own, the i-th to one of counts[i] berths: each
     * way has as many moves, so each berth of each stay is tried behind each way ahead of it.
     */
    private static SmallHarbour allMustMove(int... counts) {
        SmallHarbour x = harbour(400, 190, 180, 170, 160, 150, 140, 130, 120, 110);
        x.boat(400, 0, 1, 0);
        x.away(0, 0, 400);
        for (int i = 0; i < counts.length; i++) {
            x.boat(200 - 10 * counts[i], 0, 1, -1);
            x.stay(i + 1, 10 + i, 11 + i);
        }
        return x;
    }

    private static void triesAreCounted() {
        SmallHarbour x = allMustMove(8, 3, 6, 2, 4, 7, 5);
        DUE.is("50,000 tries", x.home(0, 10), 7);
        DUE.is("the first berth", x.moved(6, 1), 1);
        SmallHarbour y = allMustMove(3, 2, 4, 6, 2, 4, 7, 5);
        DUE.is("50,001 tries", y.home(0, 10), -2);
        DUE.is("about(3)", y.about(3), 1);
        DUE.is("about(8)", y.about(8), 0);
        DUE.is("stay 0 at", y.stayOf(0, 1), 0);
        DUE.is("lies(0, 100)", y.lies(0, 100), -1);
        DUE.is("fewer stays", y.home(0, 11), 7);
        DUE.is("far too many", allMustMove(9, 9, 9, 9, 9, 9, 9, 9, 9, 9, 9, 9).home(0, 0), -2);
    }

    private static void staysAboveFortyAreRefused() {
        SmallHarbour x = harbour(90, 80);
        x.boat(90, 0, 1, 0);
        visitors(x, 90, 80);
        x.away(0, 0, 400);
        for (int i = 0; i < 38; i++) {
            x.stay(1, i, i + 1);
        }
        x.stay(1, 100, 110);
        x.stay(1, 110, 120);
        x.berth(90, 5);
        DUE.is("about(2)", x.about(2), 40);
        DUE.is("it would be the 41st", x.home(0, 101), -3);
        DUE.is("about(3)", x.about(3), 1);
        DUE.is("its end", x.stayOf(38, 3), 110);
        DUE.is("lies(0, 105)", x.lies(0, 105), 1);
        DUE.is("lies(0, 200)", x.lies(0, 200), -1);
        DUE.is("about(8)", x.about(8), 0);
        DUE.is("both whole", x.home(0, 100), 2);
        DUE.is("about(2)", x.about(2), 40);
        DUE.is("moved(1, 2)", x.moved(1, 2), 39);

        SmallHarbour y = harbour(90);
        y.boat(90, 0, 1, 0);
        visitors(y, 90);
        y.away(0, 0, 400);
        for (int i = 0; i < 39; i++) {
            y.stay(1, i * 3, i * 3 + 3);
        }
        y.berth(90, 5);
        DUE.is("it is the 40th", y.home(0, 38 * 3 + 1), 1);
        DUE.is("moved(0, 2)", y.moved(0, 2), 39);
        DUE.is("about(2)", y.about(2), 40);
    }
}
