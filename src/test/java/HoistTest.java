/** Promises 15 to 18 (hoist, broken, lift, lifted). */
public final class HoistTest {
    private static final Due DUE = new Due();

    public static void main(String[] args) {
        hoistHasBounds();
        brokenTakesDays();
        liftHasBounds();
        liftsKeepTheirOrder();
        liftsShareTheMinutesOfADay();
        weightAndLevelCount();
        liftsEndWithTheLastDay();
        DUE.finish();
    }

    private static SmallHarbour harbour() {
        SmallHarbour x = new SmallHarbour();
        x.boat(50, 0, 100, -1);
        x.boat(50, 0, 101, -1);
        return x;
    }

    private static void hoistHasBounds() {
        SmallHarbour x = harbour();
        x.lift(0, 0, 300);
        DUE.no("level -1", x.hoist(-1, 1, 1));
        DUE.no("level 41", x.hoist(41, 1, 1));
        DUE.no("weight 0", x.hoist(0, 0, 1));
        DUE.no("weight 501", x.hoist(0, 501, 1));
        DUE.no("minutes 0", x.hoist(0, 1, 0));
        DUE.no("minutes 601", x.hoist(0, 1, 601));
        DUE.is("nothing changed", x.lifted(0), 0);
        DUE.yes("least", x.hoist(0, 1, 1));
        DUE.is("too heavy and too long", x.lifted(0), -1);
        DUE.yes("most", x.hoist(40, 500, 600));
        DUE.is("too little water", x.lifted(0), -1);
        DUE.yes("just so", x.hoist(0, 100, 300));
        DUE.is("lifted(0)", x.lifted(0), 0);
    }

    private static void brokenTakesDays() {
        SmallHarbour x = harbour();
        x.lift(0, 0, 10);
        x.lift(0, 398, 10);
        DUE.no("broken(-1)", x.broken(-1, true));
        DUE.no("broken(400)", x.broken(400, true));
        DUE.yes("broken(0)", x.broken(0, true));
        DUE.yes("broken(1)", x.broken(1, true));
        DUE.is("lifted(0)", x.lifted(0), 2);
        DUE.yes("broken(0) no more", x.broken(0, false));
        DUE.yes("nor is 5, which never was", x.broken(5, false));
        DUE.is("lifted(0)", x.lifted(0), 0);
        x.broken(398, true);
        DUE.is("lifted(1)", x.lifted(1), 399);
        DUE.yes("broken(399)", x.broken(399, true));
        DUE.is("lifted(1)", x.lifted(1), -1);
    }

    private static void liftHasBounds() {
        SmallHarbour x = harbour();
        DUE.is("no such boat", x.lift(2, 0, 1), -1);
        DUE.is("no such boat", x.lift(-1, 0, 1), -1);
        DUE.is("day -1", x.lift(0, -1, 1), -1);
        DUE.is("day 400", x.lift(0, 400, 1), -1);
        DUE.is("minutes 0", x.lift(0, 0, 0), -1);
        DUE.is("minutes 601", x.lift(0, 0, 601), -1);
        DUE.is("minutes 600", x.lift(0, 399, 600), 0);
        for (int i = 1; i < 40; i++) {
            DUE.is("lift " + i, x.lift(0, 0, 1), i);
        }
        DUE.is("the 41st lift", x.lift(0, 0, 1), -1);
        DUE.is("about(4)", x.about(4), 40);
        DUE.is("lifted(39)", x.lifted(39), 0);
        DUE.is("lifted(40)", x.lifted(40), -1);
        DUE.is("lifted(-1)", x.lifted(-1), -1);
    }

    private static void liftsKeepTheirOrder() {
        SmallHarbour x = harbour();
        x.hoist(0, 100, 100);
        x.lift(0, 10, 60);
        x.lift(1, 50, 60);
        x.lift(0, 0, 40);
        x.lift(0, 0, 1);
        x.lift(0, 20, 1);
        x.lift(0, 11, 1);
        DUE.is("its own day", x.lifted(0), 10);
        DUE.is("too heavy", x.lifted(1), -1);
        DUE.is("not ahead of the one ahead that has a day", x.lifted(2), 10);
        DUE.is("the day is full", x.lifted(3), 11);
        DUE.is("not ahead of its own", x.lifted(4), 20);
        DUE.is("not ahead of the one ahead", x.lifted(5), 20);
    }

    private static void liftsShareTheMinutesOfADay() {
        SmallHarbour x = harbour();
        x.hoist(0, 500, 100);
        x.lift(0, 0, 50);
        x.lift(0, 0, 51);
        x.lift(0, 0, 49);
        x.lift(0, 0, 1);
        x.lift(0, 0, 100);
        DUE.is("lifted(0)", x.lifted(0), 0);
        DUE.is("not enough left", x.lifted(1), 1);
        DUE.is("just enough left", x.lifted(2), 1);
        DUE.is("none left", x.lifted(3), 2);
        DUE.is("a whole day", x.lifted(4), 3);
        x.hoist(0, 500, 200);
        DUE.is("lifted(3) of longer days", x.lifted(3), 0);
        DUE.is("lifted(4) of longer days", x.lifted(4), 1);
    }

    private static void weightAndLevelCount() {
        SmallHarbour x = harbour();
        x.levels(7);
        x.level(3, 5);
        x.hoist(5, 100, 300);
        x.lift(0, 0, 200);
        x.lift(0, 0, 200);
        x.lift(1, 0, 1);
        DUE.is("lifted(0)", x.lifted(0), 3);
        DUE.is("lifted(1)", x.lifted(1), 10);
        DUE.is("lifted(2)", x.lifted(2), -1);
        x.broken(3, true);
        DUE.is("lifted(0)", x.lifted(0), 10);
        DUE.is("lifted(1)", x.lifted(1), 17);
        x.hoist(5, 101, 300);
        DUE.is("lifted(2)", x.lifted(2), 17);
        x.level(3, 4);
        DUE.is("lifted(0)", x.lifted(0), -1);
    }

    private static void liftsEndWithTheLastDay() {
        SmallHarbour x = harbour();
        x.lift(0, 399, 200);
        x.lift(0, 0, 101);
        x.lift(0, 0, 100);
        x.lift(0, 0, 1);
        DUE.is("lifted(0)", x.lifted(0), 399);
        DUE.is("lifted(1)", x.lifted(1), -1);
        DUE.is("lifted(2)", x.lifted(2), 399);
        DUE.is("lifted(3)", x.lifted(3), -1);
    }
}
