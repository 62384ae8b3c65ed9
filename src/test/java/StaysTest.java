/** Promises 7 (stay), 8 (leaves), 11 (stayOf), and of stays 12 (lies) and 13 (boatOf). */
public final class StaysTest {
    private static final Due DUE = new Due();

    public static void main(String[] args) {
        stayTakesTheFirstBerth();
        stayNeedsWaterOnEachNight();
        stayNeedsTheOwnerAway();
        stayRefusesOthers();
        noneOfTenBerthsWillDo();
        thereAreFortyStays();
        leavesEndsAStay();
        stayOfTellsItsParts();
        DUE.finish();
    }

    private static void stayTakesTheFirstBerth() {
        SmallHarbour x = new SmallHarbour();
        x.berth(50, 5);
        x.berth(100, 4);
        x.berth(100, 5);
        for (int i = 0; i < 3; i++) {
            x.boat(60, 5, 1, -1);
        }
        x.boat(50, 4, 1, -1);
        DUE.is("stay(0, 3, 6)", x.stay(0, 3, 6), 0);
        DUE.is("its berth", x.stayOf(0, 1), 2);
        DUE.is("stay(1, 5, 6): none is left", x.stay(1, 5, 6), -1);
        DUE.is("stay(1, 0, 4): none is left", x.stay(1, 0, 4), -1);
        DUE.is("stay(1, 6, 7)", x.stay(1, 6, 7), 1);
        DUE.is("stay(1, 2, 3)", x.stay(1, 2, 3), 2);
        DUE.is("stay(3, 0, 400)", x.stay(3, 0, 400), 3);
        DUE.is("its berth", x.stayOf(3, 1), 0);
        DUE.is("lies(2, 2)", x.lies(2, 2), 1);
        DUE.is("lies(2, 3)", x.lies(2, 3), 0);
        DUE.is("lies(2, 5)", x.lies(2, 5), 0);
        DUE.is("lies(2, 6)", x.lies(2, 6), 1);
        DUE.is("lies(2, 7)", x.lies(2, 7), -1);
        DUE.is("lies(0, 399)", x.lies(0, 399), 3);
        DUE.is("boatOf(1, 102)", x.boatOf(1, 102), 2);
        DUE.is("boatOf(1, 103)", x.boatOf(1, 103), -1);
        DUE.is("boatOf(1, 106)", x.boatOf(1, 106), 2);
        DUE.is("boatOf(2, 106)", x.boatOf(2, 106), -1);
    }

    private static void stayNeedsWaterOnEachNight() {
        SmallHarbour x = new SmallHarbour();
        x.levels(4);
        x.level(0, 3);
        x.level(1, 3);
        x.level(2, 2);
        x.level(3, 3);
        x.berth(50, 2);
        x.berth(50, 3);
        x.boat(50, 5, 1, -1);
        x.stay(0, 7, 10);
        DUE.is("7 to 9 at", x.stayOf(0, 1), 0);
        x.stay(0, 11, 15);
        DUE.is("11 to 14 at", x.stayOf(1, 1), 1);
        x.stay(0, 20, 22);
        DUE.is("20 to 21 at", x.stayOf(2, 1), 0);
        x.stay(0, 22, 23);
        DUE.is("22 at", x.stayOf(3, 1), 1);
    }

    private static void stayNeedsTheOwnerAway() {
        SmallHarbour x = new SmallHarbour();
        x.berth(50, 5);
        x.boat(50, 5, 1, 0);
        x.boat(50, 5, 1, -1);
        x.away(0, 15, 20);
        x.away(0, 10, 15);
        DUE.is("a night too early", x.stay(1, 9, 12), -1);
        DUE.is("a night too late", x.stay(1, 12, 21), -1);
        DUE.is("through both spans", x.stay(1, 10, 20), 0);
        DUE.is("lies(0, 9)", x.lies(0, 9), 0);
        DUE.is("lies(0, 10)", x.lies(0, 10), 1);
        DUE.is("lies(0, 19)", x.lies(0, 19), 1);
        DUE.is("lies(0, 20)", x.lies(0, 20), 0);
    }

    private static void stayRefusesOthers() {
        SmallHarbour x = new SmallHarbour();
        x.berth(50, 5);
        x.berth(50, 5);
        x.boat(50, 5, 1, -1);
        x.boat(50, 5, 1, 0);
        x.boat(51, 5, 1, -1);
        DUE.is("no such boat", x.stay(3, 0, 1), -1);
        DUE.is("no such boat", x.stay(-1, 0, 1), -1);
        DUE.is("with a home", x.stay(1, 0, 1), -1);
        DUE.is("no night", x.stay(0, 3, 3), -1);
        DUE.is("backwards", x.stay(0, 4, 3), -1);
        DUE.is("from -1", x.stay(0, -1, 3), -1);
        DUE.is("to 401", x.stay(0, 0, 401), -1);
        DUE.is("from 400", x.stay(0, 400, 401), -1);
        DUE.is("too long for each", x.stay(2, 0, 1), -1);
        DUE.is("stay(0, 10, 20)", x.stay(0, 10, 20), 0);
        x.away(1, 0, 400);
        DUE.is("its own last night", x.stay(0, 19, 25), -1);
        DUE.is("its own first night", x.stay(0, 5, 11), -1);
        DUE.is("right behind", x.stay(0, 20, 25), 1);
        DUE.is("about(2)", x.about(2), 2);
    }

    private static void noneOfTenBerthsWillDo() {
        SmallHarbour x = new SmallHarbour();
        for (int i = 0; i < 10; i++) {
            x.berth(50 + i, 5);
        }
        x.boat(60, 5, 1, -1);
        x.boat(59, 5, 1, -1);
        DUE.is("too long for ten", x.stay(0, 0, 400), -1);
        DUE.is("the tenth will do", x.stay(1, 0, 400), 0);
        DUE.is("its berth", x.stayOf(0, 1), 9);
    }

    private static void thereAreFortyStays() {
        SmallHarbour x = new SmallHarbour();
        x.berth(50, 5);
        x.boat(50, 5, 1, -1);
        for (int i = 0; i < 40; i++) {
            DUE.is("stay " + i, x.stay(0, i * 10, i * 10 + 10), i);
        }
        x.boat(50, 5, 1, -1);
        x.berth(50, 5);
        DUE.is("the 41st stay", x.stay(1, 0, 1), -1);
        DUE.is("about(2)", x.about(2), 40);
        DUE.is("stayOf(39, 3)", x.stayOf(39, 3), 400);
    }

    private static void leavesEndsAStay() {
        SmallHarbour x = new SmallHarbour();
        x.berth(50, 5);
        x.boat(50, 5, 1, -1);
        x.boat(50, 5, 1, -1);
        x.stay(0, 10, 20);
        DUE.no("no such stay", x.leaves(1, 15));
        DUE.no("no such stay", x.leaves(-1, 15));
        DUE.no("its first night", x.leaves(0, 10));
        DUE.no("ahead of it", x.leaves(0, 9));
        DUE.no("behind it", x.leaves(0, 20));
        DUE.is("it ends at", x.stayOf(0, 3), 20);
        DUE.yes("its last night", x.leaves(0, 19));
        DUE.is("it ends at", x.stayOf(0, 3), 19);
        DUE.yes("its second night", x.leaves(0, 11));
        DUE.no("none is left but the first", x.leaves(0, 11));
        DUE.is("lies(0, 10)", x.lies(0, 10), 0);
        DUE.is("lies(0, 11)", x.lies(0, 11), -1);
        DUE.is("room for another", x.stay(1, 11, 20), 1);
        DUE.is("first day as it was", x.stayOf(0, 2), 10);
    }

    private static void stayOfTellsItsParts() {
        SmallHarbour x = new SmallHarbour();
        x.berth(50, 5);
        x.berth(70, 5);
        x.boat(50, 5, 1, -1);
        x.boat(61, 5, 1, -1);
        x.stay(1, 10, 20);
        DUE.is("boat", x.stayOf(0, 0), 1);
        DUE.is("berth", x.stayOf(0, 1), 1);
        DUE.is("first day", x.stayOf(0, 2), 10);
        DUE.is("end", x.stayOf(0, 3), 20);
        DUE.is("bill without a rule", x.stayOf(0, 4), 0);
        Texts.rule(x, "f * 10000 + n * 100 + d", 0);
        DUE.is("bill", x.stayOf(0, 4), 611010);
        x.leaves(0, 13);
        DUE.is("bill of three nights", x.stayOf(0, 4), 610310);
        DUE.is("stayOf(0, 5)", x.stayOf(0, 5), -1);
        DUE.is("stayOf(0, -1)", x.stayOf(0, -1), -1);
        DUE.is("stayOf(1, 0)", x.stayOf(1, 0), -1);
        DUE.is("stayOf(-1, 4)", x.stayOf(-1, 4), -1);
    }
}
