/** Long runs of thrown calls, each answer held against that of the plain model. */
public final class ModelTest {
    private static final int RUNS = 1500;
    private static final int CALLS = 512;

    private static final String[] SNIPPETS = {"f", "n", "d", "1", "20", "99999", "100000", "0", "+", "-", "*", "/",
        "%", "<", "=", "(", ")", "if ", " then ", " else ", " ", "#", "F", "iff", "f n"};

    private final Due due;
    private final Dice dice;
    private final SmallHarbour x = new SmallHarbour();
    private final PlainHarbour y = new PlainHarbour();
    private final int longest;
    private final int lastDay;
    private final String name;
    private int boatsWithHomes = 20;
    private static final int[] ANSWERS_OF_HOME = new int[20];

    private ModelTest(Due due, int run) {
        this.due = due;
        dice = new Dice(run);
        longest = 10 + dice.below(60);
        lastDay = new int[] {8, 20, 60, 399}[dice.below(4)];
        name = "run " + run + ": ";
    }

    public static void main(String[] args) {
        Due due = new Due();
        for (int run = 0; run < RUNS; run++) {
            new ModelTest(due, run).go(run);
        }
        System.out.println("home() answered -3, -2, ..: " + java.util.Arrays.toString(ANSWERS_OF_HOME));
        due.finish();
    }

    private void go(int run) {
        int calls = run % 2 == 0 ? setUpFull() : 0;
        for (; calls < 24; calls++) {
            setUp();
        }
        while (calls < CALLS) {
            int kind = dice.below(100);
            if (kind < 4) {
                setUp();
            } else if (kind < 45) {
                berthsAndStays();
            } else if (kind < 60) {
                hoistAndShed();
            } else if (kind < 70) {
                calls += tapeAndRules();
            } else {
                ask();
            }
            calls++;
        }
    }

    private int day() {
        return dice.about(0, lastDay);
    }

    private void is(String call, int got, int want) {
        due.is(name + call, got, want);
    }

    private void is(String call, boolean got, int want) {
        due.is(name + call, got ? 1 : 0, want);
    }

    // Many homes whose boats are away, so that visitors lie in them.
    private int setUpFull() {
        int levels = 1 + dice.below(3);
        is("levels", x.levels(levels), y.levels(levels));
        is("level", x.level(0, 3), y.level(0, 3));
        int berths = 3 + dice.below(8);
        for (int i = 0; i < berths; i++) {
            int length = 10 + dice.below(longest + 1);
            int depth = 4 + dice.below(8);
            is("berth", x.berth(length, depth), y.berth(length, depth));
        }
        boatsWithHomes = 0;
        for (int i = 0; i < 1 + berths / 2; i++) {
            int home = dice.below(berths);
            if (y.boat(10, 0, 1, home) != -1) {
                is("boat", x.boat(10, 0, 1, home), boatsWithHomes);
                boatsWithHomes++;
                is("away", x.away(boatsWithHomes - 1, 0, lastDay + 1), y.away(boatsWithHomes - 1, 0, lastDay + 1));
            }
        }
        for (int i = 0; i < 16; i++) {
            int length = 10 + dice.below(longest * 3 / 4);
            int draught = dice.below(10);
            is("boat", x.boat(length, draught, 1, -1), y.boat(length, draught, 1, -1));
        }
        int stays = 3 + dice.below(14);
        for (int i = 0; i < stays; i++) {
            int boat = boatsWithHomes + dice.below(16);
            int from = dice.below(lastDay);
            int to = from + 1 + dice.below(1 + lastDay / 3);
            is("stay", x.stay(boat, from, to), y.stay(boat, from, to));
        }
        return 2 + berths + 2 * boatsWithHomes + 16 + stays;
    }

    private void setUp() {
        int a = dice.about(10, 10 + longest);
        int b = dice.about(0, 12);
        switch (dice.below(8)) {
            case 0:
                int n = dice.about(1, dice.below(3) == 0 ? 30 : 3);
                is("levels", x.levels(n), y.levels(n));
                break;
            case 1:
            case 2:
                int k = dice.about(0, 3);
                is("level", x.level(k, b), y.level(k, b));
                break;
            case 3:
            case 4:
                is("berth", x.berth(a, b), y.berth(a, b));
                break;
            default:
                int weight = dice.about(1, 500);
                int home = dice.below(3) == 0 ? dice.about(0, 5) : -1;
                is("boat", x.boat(a, b, weight, home), y.boat(a, b, weight, home));
        }
    }

    private void berthsAndStays() {
        int boat = dice.about(0, 20);
        int from = day();
        int to = from + dice.about(1, dice.below(3) == 0 ? 10 : 3);
        switch (dice.below(7)) {
            case 0:
            case 1:
                is("away", x.away(boat, from, to + 8), y.away(boat, from, to + 8));
                break;
            case 2:
            case 3:
                is("stay", x.stay(boat, from, to), y.stay(boat, from, to));
                break;
            case 4:
                int s = dice.about(0, 39);
                is("leaves", x.leaves(s, from), y.leaves(s, from));
                break;
            default:
                boat = dice.about(0, boatsWithHomes);
                int answer = x.home(boat, from);
                is("home(" + boat + ", " + from + ")", answer, y.home(boat, from));
                ANSWERS_OF_HOME[answer + 3]++;
        }
    }

    private void hoistAndShed() {
        int a = dice.about(0, 9);
        int minutes = dice.about(1, dice.below(2) == 0 ? 600 : 100);
        int day = day();
        switch (dice.below(12)) {
            case 0:
                int weight = dice.about(1, 500);
                is("hoist", x.hoist(a, weight, minutes), y.hoist(a, weight, minutes));
                break;
            case 1:
            case 2:
                is("broken", x.broken(day, a > 2), y.broken(day, a > 2));
                break;
            case 3:
            case 4:
            case 5:
                is("lift", x.lift(a, day, minutes), y.lift(a, day, minutes));
                break;
            case 6:
                int length = dice.about(10, 300);
                int lanes = dice.about(1, 4);
                is("shed", x.shed(lanes, length), y.shed(lanes, length));
                break;
            default:
                int boat = dice.about(0, 20);
                is("winter", x.winter(boat, day), y.winter(boat, day));
        }
    }

    private int tapeAndRules() {
        int kind = dice.below(4);
        String text = kind == 0 ? snippets() : expression(dice.below(4));
        int calls = 0;
        for (int i = 0; i < text.length(); i += 20) {
            int[] words = new int[5];
            for (int k = 0; k < 20; k++) {
                words[k / 4] = words[k / 4] << 8 | (i + k < text.length() ? text.charAt(i + k) : 0);
            }
            int got = x.feed(words[0], words[1], words[2], words[3], words[4]);
            is("feed", got, y.feed(words));
            calls++;
        }
        int n = dice.below(20) == 0 ? dice.any() : text.length();
        is("end", x.end(n), y.end(n));
        int day = day();
        is("rule of " + text, x.rule(day), y.rule(day));
        is("fault(0) of " + text, x.fault(0), y.fault(0));
        is("fault(1) of " + text, x.fault(1), y.fault(1));
        if (x.about(6) > 0) {
            int r = dice.below(x.about(6));
            int f = dice.any();
            int nights = dice.any();
            int d = dice.any();
            is("says of " + text, x.says(r, f, nights, d), y.says(r, f, nights, d));
        }
        return calls + 5;
    }

    private String snippets() {
        StringBuilder s = new StringBuilder();
        for (int i = dice.below(30); i >= 0; i--) {
            s.append(SNIPPETS[dice.below(SNIPPETS.length)]);
        }
        return s.length() > 200 ? s.substring(0, 200) : s.toString();
    }

    private String expression(int depth) {
        StringBuilder s = new StringBuilder(e(depth));
        if (dice.below(3) == 0) {
            int at = dice.below(s.length());
            String snippet = SNIPPETS[dice.below(SNIPPETS.length)];
            s.replace(at, at + dice.below(2), snippet);
        }
        return s.length() > 200 ? s.substring(0, 200) : s.toString();
    }

    private String e(int depth) {
        if (depth > 0 && dice.below(4) == 0) {
            return "if " + e(depth - 1) + " then " + e(depth - 1) + " else " + e(depth - 1);
        }
        return dice.below(3) == 0 ? s(depth) + (dice.below(2) == 0 ? "<" : "=") + s(depth) : s(depth);
    }

    private String s(int depth) {
        StringBuilder s = new StringBuilder(u(depth));
        for (int i = dice.below(3); i > 0; i--) {
            s.append("+-*/%".charAt(dice.below(5))).append(dice.below(3) == 0 ? " " : "").append(u(depth));
        }
        return s.toString();
    }

    private String u(int depth) {
        switch (dice.below(depth > 0 ? 7 : 4)) {
            case 0:
                return "f";
            case 1:
                return "n";
            case 2:
                return "d";
            case 3:
                return "" + dice.below(dice.below(30) == 0 ? 200000 : 50);
            case 4:
                return "-" + u(depth - 1);
            default:
                return "(" + e(depth - 1) + ")";
        }
    }

    private void ask() {
        int boat = dice.about(0, 20);
        int berth = dice.about(0, 9);
        int s = dice.about(0, 39);
        int day = day();
        int what = dice.about(0, 8);
        switch (dice.below(13)) {
            case 0:
                is("moved", x.moved(berth, what % 4), y.moved(berth, what % 4));
                break;
            case 1:
            case 2:
                s = dice.below(Math.max(1, x.about(2)));
                is("stayOf", x.stayOf(s, what), y.stayOf(s, what));
                break;
            case 3:
            case 4:
                is("lies", x.lies(berth, day), y.lies(berth, day));
                break;
            case 5:
                is("boatOf", x.boatOf(boat, what), y.boatOf(boat, what));
                break;
            case 6:
                is("boatOf night", x.boatOf(boat, 100 + day), y.boatOf(boat, 100 + day));
                break;
            case 7:
                is("fits", x.fits(boat, berth, day), y.fits(boat, berth, day));
                break;
            case 8:
                is("lifted", x.lifted(s), y.lifted(s));
                break;
            case 9:
                is("moves", x.moves(), y.moves());
                break;
            case 10:
                is("lane", x.lane(berth), y.lane(berth));
                break;
            case 11:
                is("owes", x.owes(boat), y.owes(boat));
                break;
            default:
                is("about", x.about(what), y.about(what));
        }
    }
}
