/** Whatever is asked, in whatever state: an answer, never what the machine throws. */
public final class AnyArgumentsTest {
    public static void main(String[] args) {
        Due due = new Due();
        for (int run = 0; run < 4000; run++) {
            Dice dice = new Dice(run + 77777);
            SmallHarbour x = new SmallHarbour();
            for (int call = 0; call < 512; call++) {
                int kind = dice.below(29);
                try {
                    ask(x, kind, dice);
                } catch (RuntimeException | Error e) {
                    due.is("run " + run + ", call " + call + " of kind " + kind + ": " + e, 1, 0);
                }
            }
            due.is("about(0) is in bounds", x.about(0) >= 0 && x.about(0) <= 10 ? 1 : 0, 1);
        }
        due.finish();
    }

    private static void ask(SmallHarbour x, int kind, Dice dice) {
        int a = dice.any();
        int b = dice.any();
        int c = dice.any();
        int d = dice.any();
        switch (kind) {
            case 0: x.levels(a); break;
            case 1: x.level(a, b); break;
            case 2: x.berth(a, b); break;
            case 3: x.boat(a, b, c, d); break;
            case 4: x.away(a, b, c); break;
            case 5: x.stay(a, b, c); break;
            case 6: x.leaves(a, b); break;
            case 7: x.home(a, b); break;
            case 8: x.moved(a, b); break;
            case 9: x.stayOf(a, b); break;
            case 10: x.lies(a, b); break;
            case 11: x.boatOf(a, b); break;
            case 12: x.fits(a, b, c); break;
            case 13: x.hoist(a, b, c); break;
            case 14: x.broken(a, b > 0); break;
            case 15: x.lift(a, b, c); break;
            case 16: x.lifted(a); break;
            case 17: x.shed(a, b); break;
            case 18: x.winter(a, b); break;
            case 19: x.moves(); break;
            case 20: x.lane(a); break;
            case 21: x.feed(a, b, c, d, dice.any()); break;
            case 22: x.end(a); break;
            case 23: x.rule(a); break;
            case 24: x.fault(a); break;
            case 25: x.says(a, b, c, d); break;
            case 26: x.owes(a); break;
            case 27: x.about(a); break;
            default: x.boat(10 + dice.below(391), dice.below(61), 1 + dice.below(500), dice.below(11) - 1);
        }
    }
}
