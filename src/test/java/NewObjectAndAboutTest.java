/** Promises 1 (a new object) and 29 (about). */
public final class NewObjectAndAboutTest {
    private static final Due DUE = new Due();

    public static void main(String[] args) {
        aNewObjectIsEmpty();
        aNewShedIsOneLaneOfHundred();
        aNewHoistHasItsFirstSettings();
        aNewTideIsOneDayOfZero();
        aboutCountsAll();
        objectsAreApart();
        DUE.finish();
    }

    private static void aNewObjectIsEmpty() {
        SmallHarbour x = new SmallHarbour();
        DUE.is("NONE", SmallHarbour.NONE, -1);
        for (int what = 0; what <= 8; what++) {
            DUE.is("about(" + what + ")", x.about(what), 0);
        }
        DUE.is("about(9)", x.about(9), -1);
        DUE.is("about(-1)", x.about(-1), -1);
        DUE.is("about(max)", x.about(Integer.MAX_VALUE), -1);
        DUE.is("moved", x.moved(0, 0), -1);
        DUE.is("lies", x.lies(0, 0), -1);
        DUE.is("boatOf", x.boatOf(0, 0), -1);
        DUE.is("stayOf", x.stayOf(0, 0), -1);
        DUE.is("lifted", x.lifted(0), -1);
        DUE.is("fault(0)", x.fault(0), -1);
        DUE.is("fault(1)", x.fault(1), -1);
        DUE.is("says", x.says(0, 1, 1, 1), 0);
        DUE.is("owes", x.owes(0), 0);
    }

    private static void aNewShedIsOneLaneOfHundred() {
        SmallHarbour x = new SmallHarbour();
        x.boat(60, 0, 1, -1);
        x.boat(40, 0, 1, -1);
        x.boat(10, 0, 1, -1);
        DUE.is("moves of none", x.moves(), 0);
        x.winter(0, 5);
        x.winter(1, 5);
        DUE.is("moves of 100", x.moves(), 0);
        DUE.is("lane(1)", x.lane(1), 0);
        x.winter(2, 5);
        DUE.is("moves of 110", x.moves(), -1);
    }

    private static void aNewHoistHasItsFirstSettings() {
        SmallHarbour x = new SmallHarbour();
        x.boat(10, 0, 500, -1);
        x.lift(0, 0, 300);
        x.lift(0, 0, 301);
        x.lift(0, 0, 1);
        DUE.is("lifted(0)", x.lifted(0), 0);
        DUE.is("lifted(1)", x.lifted(1), -1);
        DUE.is("lifted(2)", x.lifted(2), 1);
    }

    private static void aNewTideIsOneDayOfZero() {
        SmallHarbour x = new SmallHarbour();
        x.berth(100, 5);
        x.boat(100, 5, 1, -1);
        x.boat(100, 6, 1, -1);
        DUE.is("fits(0, 0, 399)", x.fits(0, 0, 399), 1);
        DUE.is("fits(1, 0, 399)", x.fits(1, 0, 399), 0);
        DUE.no("level(1, 1)", x.level(1, 1));
        DUE.yes("level(0, 1)", x.level(0, 1));
        DUE.is("fits(1, 0, 399)", x.fits(1, 0, 399), 1);
    }

    private static void aboutCountsAll() {
        SmallHarbour x = new SmallHarbour();
        x.berth(100, 5);
        x.berth(100, 5);
        x.berth(100, 5);
        x.berth(100, 5);
        x.boat(100, 0, 1, 0);
        x.boat(100, 0, 1, -1);
        x.boat(100, 0, 1, -1);
        x.away(0, 10, 20);
        x.away(0, 30, 40);
        x.stay(1, 12, 14);
        for (int i = 0; i < 5; i++) {
            x.lift(0, 0, 1);
        }
        x.winter(0, 1);
        Texts.rule(x, "1", 0);
        Texts.rule(x, "2", 0);
        Texts.put(x, "1234567");
        DUE.is("about(0)", x.about(0), 4);
        DUE.is("about(1)", x.about(1), 3);
        DUE.is("about(2)", x.about(2), 1);
        DUE.is("about(3)", x.about(3), 2);
        DUE.is("about(4)", x.about(4), 5);
        DUE.is("about(5)", x.about(5), 1);
        DUE.is("about(6)", x.about(6), 2);
        DUE.is("about(7)", x.about(7), 7);
        DUE.is("about(8)", x.about(8), 0);
        DUE.is("home(0, 13)", x.home(0, 13), 1);
        DUE.is("about(2) then", x.about(2), 2);
        DUE.is("about(3) then", x.about(3), 2);
        DUE.is("about(8) then", x.about(8), 1);
    }

    private static void objectsAreApart() {
        SmallHarbour x = new SmallHarbour();
        SmallHarbour y = new SmallHarbour();
        x.berth(100, 5);
        Texts.rule(x, "1", 0);
        DUE.is("about(0) of another", y.about(0), 0);
        DUE.is("says of another", y.says(0, 0, 0, 0), 0);
    }
}
