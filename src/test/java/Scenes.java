/** Harbours that several tests begin with. */
final class Scenes {
    private Scenes() {
    }

    /** Nothing fixes the levels: berths and boats without a home, a hoist, a shed, rules, a tape. */
    static void tidal(SmallHarbour x) {
        x.levels(3);
        x.level(0, 4);
        x.level(1, 2);
        x.level(2, 7);
        x.berth(100, 10);
        x.berth(120, 20);
        x.berth(80, 5);
        x.boat(90, 8, 50, -1);
        x.boat(110, 15, 70, -1);
        x.boat(80, 6, 40, -1);
        x.boat(60, 9, 300, -1);
        x.hoist(3, 299, 200);
        x.broken(2, true);
        x.broken(399, true);
        x.lift(0, 1, 150);
        x.lift(3, 0, 10);
        x.lift(1, 0, 51);
        x.shed(2, 180);
        x.winter(0, 10);
        x.winter(2, 20);
        x.winter(3, 15);
        Texts.rule(x, "f*n+d", 0);
        Texts.rule(x, "n*7", 10);
        Texts.rule(x, "1+#", 3);
        Texts.put(x, "d+1");
    }

    /** Homes, spans away, stays, a home() that moved two stays: something of everything. */
    static void busy(SmallHarbour x) {
        x.levels(3);
        x.level(0, 4);
        x.level(1, 2);
        x.level(2, 7);
        x.berth(100, 10);
        x.berth(120, 20);
        x.berth(80, 5);
        x.berth(100, 9);
        x.berth(60, 4);
        x.boat(90, 8, 50, 0);
        x.boat(110, 15, 70, 1);
        x.boat(80, 6, 40, -1);
        x.boat(60, 5, 300, -1);
        x.boat(90, 9, 500, -1);
        x.away(0, 5, 20);
        x.away(0, 30, 60);
        x.away(1, 300, 400);
        x.stay(2, 6, 12);
        x.stay(3, 8, 40);
        x.stay(4, 12, 30);
        x.stay(2, 13, 16);
        x.home(0, 14);
        x.hoist(3, 299, 200);
        x.broken(2, true);
        x.broken(399, true);
        x.lift(0, 1, 150);
        x.lift(3, 0, 10);
        x.lift(1, 0, 51);
        x.shed(2, 180);
        x.winter(0, 10);
        x.winter(2, 20);
        x.winter(3, 15);
        Texts.rule(x, "f*n+d", 0);
        Texts.rule(x, "n*7", 10);
        Texts.rule(x, "1+#", 3);
        Texts.put(x, "d+1");
    }
}
