/** Promises 2 to 6 (levels, level, berth, boat, away) and 12 to 14 (lies, boatOf, fits). */
public final class BerthsAndBoatsTest {
    private static final Due DUE = new Due();

    public static void main(String[] args) {
        levelsTakeOneToThirtyDays();
        levelsComeAgainAndAgain();
        levelsAreFixedByStaysAndHomes();
        berthsHaveBounds();
        boatsHaveBounds();
        homesAreChecked();
        homesMustFitOnEachDay();
        spansAwayAreChecked();
        boatsLieAtHomeButForSpans();
        DUE.finish();
    }

    private static void levelsTakeOneToThirtyDays() {
        SmallHarbour x = new SmallHarbour();
        DUE.no("levels(0)", x.levels(0));
        DUE.no("levels(-1)", x.levels(-1));
        DUE.no("levels(31)", x.levels(31));
        DUE.no("levels(min)", x.levels(Integer.MIN_VALUE));
        DUE.yes("levels(30)", x.levels(30));
        DUE.yes("level(29, 40)", x.level(29, 40));
        DUE.yes("level(0, 0)", x.level(0, 0));
        DUE.no("level(30, 1)", x.level(30, 1));
        DUE.no("level(-1, 1)", x.level(-1, 1));
        DUE.no("level(1, -1)", x.level(1, -1));
        DUE.no("level(1, 41)", x.level(1, 41));
        DUE.yes("levels(1)", x.levels(1));
        DUE.no("level(1, 1)", x.level(1, 1));
    }

    private static void levelsComeAgainAndAgain() {
        SmallHarbour x = new SmallHarbour();
        x.berth(50, 2);
        x.boat(50, 5, 1, -1);
        x.levels(3);
        x.level(1, 3);
        x.level(2, 2);
        for (int day = 0; day < 400; day++) {
            DUE.is("fits on " + day, x.fits(0, 0, day), day % 3 == 1 ? 1 : 0);
        }
        DUE.no("levels(31)", x.levels(31));
        DUE.is("fits on 1, nothing changed", x.fits(0, 0, 1), 1);
        DUE.yes("levels(3)", x.levels(3));
        DUE.is("fits on 1, all are 0", x.fits(0, 0, 1), 0);
        DUE.yes("levels(30)", x.levels(30));
        DUE.is("fits on 29, all are 0", x.fits(0, 0, 29), 0);
        DUE.is("no such boat", x.fits(1, 0, 0), -1);
        DUE.is("no such boat", x.fits(-1, 0, 0), -1);
        DUE.is("no such berth", x.fits(0, 1, 0), -1);
        DUE.is("no such berth", x.fits(0, -1, 0), -1);
        DUE.is("no such day", x.fits(0, 0, 400), -1);
        DUE.is("no such day", x.fits(0, 0, -1), -1);
    }

    private static void levelsAreFixedByStaysAndHomes() {
        SmallHarbour x = new SmallHarbour();
        x.berth(50, 2);
        x.boat(50, 1, 1, -1);
        DUE.yes("levels with a boat without a home", x.levels(2));
        DUE.yes("level with a boat without a home", x.level(0, 2));
        x.stay(0, 0, 1);
        DUE.no("levels with a stay", x.levels(2));
        DUE.no("level with a stay", x.level(0, 2));
        SmallHarbour y = new SmallHarbour();
        y.berth(50, 2);
        y.boat(50, 1, 1, 0);
        y.away(0, 0, 400);
        DUE.no("levels with a home", y.levels(2));
        DUE.no("level with a home", y.level(0, 2));
    }

    private static void berthsHaveBounds() {
        SmallHarbour x = new SmallHarbour();
        DUE.is("berth(9, 0)", x.berth(9, 0), -1);
        DUE.is("berth(401, 0)", x.berth(401, 0), -1);
        DUE.is("berth(10, -1)", x.berth(10, -1), -1);
        DUE.is("berth(10, 61)", x.berth(10, 61), -1);
        DUE.is("berth(10, 0)", x.berth(10, 0), 0);
        DUE.is("berth(400, 60)", x.berth(400, 60), 1);
        for (int i = 2; i < 10; i++) {
            DUE.is("berth " + i, x.berth(100, 10), i);
        }
        DUE.is("the 11th berth", x.berth(100, 10), -1);
        DUE.is("about(0)", x.about(0), 10);
    }

    private static void boatsHaveBounds() {
        SmallHarbour x = new SmallHarbour();
        DUE.is("length 9", x.boat(9, 0, 1, -1), -1);
        DUE.is("length 401", x.boat(401, 0, 1, -1), -1);
        DUE.is("draught -1", x.boat(10, -1, 1, -1), -1);
        DUE.is("draught 61", x.boat(10, 61, 1, -1), -1);
        DUE.is("weight 0", x.boat(10, 0, 0, -1), -1);
        DUE.is("weight 501", x.boat(10, 0, 501, -1), -1);
        DUE.is("home -2", x.boat(10, 0, 1, -2), -1);
        DUE.is("home 0, without berths", x.boat(10, 0, 1, 0), -1);
        DUE.is("least", x.boat(10, 0, 1, -1), 0);
        DUE.is("most", x.boat(400, 60, 500, -1), 1);
        DUE.is("length of 1", x.boatOf(1, 0), 400);
        DUE.is("draught of 1", x.boatOf(1, 1), 60);
        DUE.is("weight of 1", x.boatOf(1, 2), 500);
        DUE.is("home of 1", x.boatOf(1, 3), -1);
        DUE.is("boatOf(1, 4)", x.boatOf(1, 4), -1);
        DUE.is("boatOf(1, -1)", x.boatOf(1, -1), -1);
        DUE.is("boatOf(2, 0)", x.boatOf(2, 0), -1);
        DUE.is("boatOf(-1, 0)", x.boatOf(-1, 0), -1);
        for (int i = 2; i < 30; i++) {
            DUE.is("boat " + i, x.boat(10, 0, 1, -1), i);
        }
        DUE.is("the 31st boat", x.boat(10, 0, 1, -1), -1);
        DUE.is("about(1)", x.about(1), 30);
    }

    private static void homesAreChecked() {
        SmallHarbour x = new SmallHarbour();
        x.berth(100, 5);
        x.berth(100, 5);
        x.berth(100, 5);
        DUE.is("too long", x.boat(101, 5, 1, 0), -1);
        DUE.is("too deep", x.boat(100, 6, 1, 0), -1);
        DUE.is("just so", x.boat(100, 5, 1, 0), 0);
        DUE.is("another one's", x.boat(100, 5, 1, 0), -1);
        x.away(0, 0, 400);
        DUE.is("another one's, who is away", x.boat(100, 5, 1, 0), -1);
        x.boat(100, 5, 1, -1);
        x.boat(100, 5, 1, -1);
        DUE.is("stay(1, 399, 400)", x.stay(1, 399, 400), 0);
        DUE.is("stay(2, 399, 400)", x.stay(2, 399, 400), 1);
        DUE.is("lies(1, 399)", x.lies(1, 399), 2);
        DUE.is("a stay's", x.boat(100, 5, 1, 1), -1);
        DUE.is("nobody's", x.boat(100, 5, 1, 2), 3);
        DUE.is("home of 3", x.boatOf(3, 3), 2);
        DUE.is("about(1)", x.about(1), 4);
    }

    private static void homesMustFitOnEachDay() {
        SmallHarbour x = new SmallHarbour();
        x.berth(100, 5);
        x.levels(30);
        for (int k = 0; k < 29; k++) {
            x.level(k, 40);
        }
        DUE.is("not on day 29", x.boat(100, 6, 1, 0), -1);
        x.level(29, 1);
        DUE.is("on each day", x.boat(100, 6, 1, 0), 0);
    }

    private static void spansAwayAreChecked() {
        SmallHarbour x = new SmallHarbour();
        x.berth(100, 5);
        x.berth(100, 5);
        x.boat(100, 5, 1, 0);
        x.boat(100, 5, 1, -1);
        x.boat(100, 5, 1, 1);
        DUE.no("no such boat", x.away(3, 0, 1));
        DUE.no("no such boat", x.away(-1, 0, 1));
        DUE.no("without a home", x.away(1, 0, 1));
        DUE.no("from -1", x.away(0, -1, 1));
        DUE.no("to 401", x.away(0, 0, 401));
        DUE.no("no night", x.away(0, 5, 5));
        DUE.no("backwards", x.away(0, 6, 5));
        DUE.no("from 400", x.away(0, 400, 400));
        DUE.yes("10 to 20", x.away(0, 10, 20));
        DUE.no("its last night", x.away(0, 19, 30));
        DUE.no("its first night", x.away(0, 5, 11));
        DUE.no("around it", x.away(0, 5, 30));
        DUE.no("within it", x.away(0, 12, 13));
        DUE.yes("right behind it", x.away(0, 20, 30));
        DUE.yes("right ahead of it", x.away(0, 5, 10));
        DUE.yes("another boat", x.away(2, 10, 20));
        for (int i = 4; i < 60; i++) {
            DUE.yes("span " + i, x.away(2, 100 + i, 101 + i));
        }
        DUE.no("the 61st span", x.away(0, 399, 400));
        DUE.is("about(3)", x.about(3), 60);
    }

    private static void boatsLieAtHomeButForSpans() {
        SmallHarbour x = new SmallHarbour();
        x.berth(100, 5);
        x.berth(100, 5);
        x.boat(100, 5, 1, 0);
        x.boat(100, 5, 1, 1);
        x.away(0, 10, 12);
        x.away(1, 399, 400);
        for (int day = 0; day < 400; day++) {
            boolean isAway = day == 10 || day == 11;
            DUE.is("lies(0, " + day + ")", x.lies(0, day), isAway ? -1 : 0);
            DUE.is("boatOf(0, 100 + " + day + ")", x.boatOf(0, 100 + day), isAway ? -1 : 0);
        }
        DUE.is("lies(1, 398)", x.lies(1, 398), 1);
        DUE.is("lies(1, 399)", x.lies(1, 399), -1);
        DUE.is("boatOf(1, 499)", x.boatOf(1, 499), -1);
        DUE.is("boatOf(0, 499)", x.boatOf(0, 499), 0);
        DUE.is("boatOf(0, 500)", x.boatOf(0, 500), -1);
        DUE.is("boatOf(0, 99)", x.boatOf(0, 99), -1);
        DUE.is("boatOf(0, max)", x.boatOf(0, Integer.MAX_VALUE), -1);
        DUE.is("lies(0, -1)", x.lies(0, -1), -1);
        DUE.is("lies(0, 400)", x.lies(0, 400), -1);
        DUE.is("lies(2, 0)", x.lies(2, 0), -1);
        DUE.is("lies(-1, 0)", x.lies(-1, 0), -1);
    }
}
