/** Promises 19 to 22 (shed, winter, moves, lane). */
public final class ShedTest {
    private static final Due DUE = new Due();

    public static void main(String[] args) {
        shedHasBounds();
        winterRefusesOthers();
        boatsThatGoOutTogetherNeedNoMove();
        lanesMustHoldTheirBoats();
        fewestMovesThenFirstLanes();
        aNewShedForgetsTheFormer();
        allLanesOfNineBoatsAreLookedAt();
        DUE.finish();
    }

    private static SmallHarbour harbour(int... lengths) {
        SmallHarbour x = new SmallHarbour();
        for (int length : lengths) {
            x.boat(length, 0, 1, -1);
        }
        return x;
    }

    private static void shedHasBounds() {
        SmallHarbour x = harbour(50);
        x.winter(0, 1);
        DUE.no("0 lanes", x.shed(0, 100));
        DUE.no("5 lanes", x.shed(5, 100));
        DUE.no("length 9", x.shed(1, 9));
        DUE.no("length 2001", x.shed(1, 2001));
        DUE.is("nothing changed", x.about(5), 1);
        DUE.is("nothing changed", x.lane(0), 0);
        DUE.yes("least", x.shed(1, 10));
        DUE.is("nothing in it", x.about(5), 0);
        DUE.is("no move of none", x.moves(), 0);
        DUE.is("lane(0)", x.lane(0), -1);
        DUE.yes("most", x.shed(4, 2000));
        DUE.is("in again", x.winter(0, 1), 1);
        DUE.is("lane(0)", x.lane(0), 0);
    }

    private static void winterRefusesOthers() {
        SmallHarbour x = harbour(10, 10, 10, 10, 10, 10, 10, 10, 10, 10);
        x.shed(1, 2000);
        DUE.is("no such boat", x.winter(10, 1), -1);
        DUE.is("no such boat", x.winter(-1, 1), -1);
        DUE.is("day -1", x.winter(0, -1), -1);
        DUE.is("day 400", x.winter(0, 400), -1);
        DUE.is("day 399", x.winter(0, 399), 1);
        DUE.is("it is there", x.winter(0, 5), -1);
        for (int i = 1; i < 9; i++) {
            DUE.is("boat " + i, x.winter(i, 0), i + 1);
            DUE.is("it is there, " + i, x.winter(i, 0), -1);
        }
        DUE.is("the 10th", x.winter(9, 0), -1);
        DUE.is("about(5)", x.about(5), 9);
        DUE.is("moves", x.moves(), 0);
        DUE.is("lane(8)", x.lane(8), 0);
        DUE.is("lane(9)", x.lane(9), -1);
        DUE.is("lane(-1)", x.lane(-1), -1);
    }

    private static void boatsThatGoOutTogetherNeedNoMove() {
        SmallHarbour x = harbour(10, 10, 10);
        x.winter(0, 7);
        x.winter(1, 7);
        DUE.is("of one day", x.moves(), 0);
        x.winter(2, 8);
        DUE.is("two go out ahead of the last", x.moves(), 2);
    }

    private static void lanesMustHoldTheirBoats() {
        SmallHarbour x = harbour(60, 50, 40, 50, 20);
        x.shed(2, 100);
        x.winter(0, 50);
        x.winter(1, 40);
        x.winter(2, 30);
        x.winter(3, 20);
        DUE.is("just full", x.moves(), 0);
        DUE.is("lane(0)", x.lane(0), 0);
        DUE.is("lane(1)", x.lane(1), 1);
        DUE.is("lane(2)", x.lane(2), 0);
        DUE.is("lane(3)", x.lane(3), 1);
        x.winter(4, 10);
        DUE.is("overfull", x.moves(), -1);
        DUE.is("lane(0)", x.lane(0), -1);
        DUE.is("all are there", x.about(5), 5);
    }

    private static void fewestMovesThenFirstLanes() {
        SmallHarbour x = harbour(10, 10, 10, 10, 10, 10);
        x.shed(2, 50);
        int[] out = {10, 20, 5, 15, 30, 1};
        for (int i = 0; i < out.length; i++) {
            x.winter(i, out[i]);
        }
        DUE.is("moves", x.moves(), 2);
        int[] lanes = {0, 0, 0, 1, 1, 0};
        for (int i = 0; i < lanes.length; i++) {
            DUE.is("lane(" + i + ")", x.lane(i), lanes[i]);
        }
    }

    private static void aNewShedForgetsTheFormer() {
        SmallHarbour x = harbour(10, 10);
        x.winter(0, 1);
        x.winter(1, 2);
        DUE.is("moves", x.moves(), 1);
        x.shed(1, 19);
        DUE.is("moves of none", x.moves(), 0);
        DUE.is("the later one first", x.winter(1, 2), 1);
        DUE.is("then the earlier one", x.winter(0, 1), 2);
        DUE.is("they can't be put", x.moves(), -1);
        x.shed(1, 20);
        DUE.is("moves of none", x.moves(), 0);
        x.winter(1, 2);
        x.winter(0, 1);
        DUE.is("moves", x.moves(), 0);
    }

    // Every way to put nine boats into the lanes, in order, without leaving any out.
    private static void allLanesOfNineBoatsAreLookedAt() {
        int seed = 12345;
        for (int round = 0; round < 12; round++) {
            int[] lengths = new int[9];
            int[] out = new int[9];
            for (int i = 0; i < 9; i++) {
                seed = seed * 1103515245 + 12345;
                lengths[i] = 10 + (seed >>> 16) % 50;
                seed = seed * 1103515245 + 12345;
                out[i] = (seed >>> 16) % (round % 3 == 0 ? 4 : 300);
            }
            int lanes = 1 + round % 4;
            int length = 330 / lanes + 10 * (round % 5);
            SmallHarbour x = harbour(lengths);
            x.shed(lanes, length);
            for (int i = 0; i < 9; i++) {
                x.winter(i, out[i]);
            }
            int[] best = everyWay(lengths, out, lanes, length);
            DUE.is("moves of round " + round, x.moves(), best == null ? -1 : movesOf(best, out));
            for (int i = 0; i < 9; i++) {
                DUE.is("lane(" + i + ") of round " + round, x.lane(i), best == null ? -1 : best[i]);
            }
        }
    }

    private static int[] everyWay(int[] lengths, int[] out, int lanes, int length) {
        int ways = 1;
        for (int i = 0; i < 9; i++) {
            ways *= lanes;
        }
        int[] best = null;
        for (int way = 0; way < ways; way++) {
            int[] put = new int[9];
            int rest = way;
            for (int i = 8; i >= 0; i--) {
                put[i] = rest % lanes;
                rest /= lanes;
            }
            boolean isHeld = true;
            for (int lane = 0; lane < lanes; lane++) {
                int sum = 0;
                for (int i = 0; i < 9; i++) {
                    sum += put[i] == lane ? lengths[i] : 0;
                }
                isHeld &= sum <= length;
            }
            if (isHeld && (best == null || movesOf(put, out) < movesOf(best, out))) {
                best = put;
            }
        }
        return best;
    }

    private static int movesOf(int[] put, int[] out) {
        int moves = 0;
        for (int i = 0; i < put.length; i++) {
            for (int j = i + 1; j < put.length; j++) {
                moves += put[i] == put[j] && out[i] < out[j] ? 1 : 0;
            }
        }
        return moves;
    }
}
