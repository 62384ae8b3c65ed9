import java.util.ArrayList;
import java.util.List;

/**
 * All that a harbour answers, and what it would do next: two harbours with the same portrait are
 * alike. The questions go to harbours made anew by the same steps, a few hundred to each, so that
 * none is asked beyond its 512 calls and none sees what another question did.
 */
final class Portrait {
    private static final int QUESTIONS_OF_ONE = 250;

    record Answer(String call, int a, int b, int got) {
    }

    private record Question(String call, int a, int b, Scene.Call it) {
    }

    private final Scene.Steps steps;
    private final List<Answer> answers = new ArrayList<>();
    private final List<Question> questions = new ArrayList<>();
    private final int boats;
    private final int berths;

    private Portrait(Scene.Steps steps) {
        this.steps = steps;
        SmallHarbour x = fresh();
        berths = x.about(0);
        boats = x.about(1);
    }

    static List<Answer> of(Scene.Steps steps) {
        Portrait p = new Portrait(steps);
        p.questionsOfCounts();
        p.questionsOfNights();
        p.askAll();
        p.readTheTape();
        p.tellLevels();
        p.useTheHoist();
        p.useTheShed();
        p.goOnWithBoats();
        p.comeHome();
        return p.answers;
    }

    private SmallHarbour fresh() {
        SmallHarbour x = new SmallHarbour();
        steps.on(x);
        return x;
    }

    private void note(String call, int a, int b, int got) {
        answers.add(new Answer(call, a, b, got));
    }

    private void ask(String call, int a, int b, Scene.Call it) {
        questions.add(new Question(call, a, b, it));
    }

    private void askAll() {
        SmallHarbour x = null;
        for (int i = 0; i < questions.size(); i++) {
            if (i % QUESTIONS_OF_ONE == 0) {
                x = fresh();
            }
            Question q = questions.get(i);
            note(q.call, q.a, q.b, q.it.on(x));
        }
    }

    // ---- what only looks ----

    private void questionsOfCounts() {
        for (int i = -1; i <= 41; i++) {
            int k = i;
            ask("about", k, 0, x -> x.about(k));
            ask("fault", k, 0, x -> x.fault(k));
            ask("lane", k, 0, x -> x.lane(k));
            ask("lifted", k, 0, x -> x.lifted(k));
            ask("owes", k, 0, x -> x.owes(k));
            ask("says of 3 5 7", k, 0, x -> x.says(k, 3, 5, 7));
            ask("says of 30 -2 11", k, 0, x -> x.says(k, 30, -2, 11));
            for (int part = 0; part < 5; part++) {
                int what = part;
                ask("moved", k, what, x -> x.moved(k, what));
                ask("stayOf", k, what, x -> x.stayOf(k, what));
                ask("boatOf", k, what, x -> x.boatOf(k, what));
            }
        }
        ask("moves", 0, 0, x -> x.moves());
    }

    private void questionsOfNights() {
        for (int night = 0; night < 400; night++) {
            int day = night;
            for (int i = 0; i < berths; i++) {
                int berth = i;
                ask("lies", berth, day, x -> x.lies(berth, day));
            }
            for (int i = 0; i < boats; i++) {
                int boat = i;
                ask("boatOf 100 +", boat, day, x -> x.boatOf(boat, 100 + day));
            }
        }
        for (int i = 0; i < boats * berths; i++) {
            int boat = i / berths;
            int berth = i % berths;
            for (int k = 0; k <= 30; k++) {
                int day = k;
                ask("fits on " + berth, boat, day, x -> x.fits(boat, berth, day));
            }
        }
    }

    // ---- what goes on from there ----

    private void readTheTape() {
        SmallHarbour x = fresh();
        note("rule", 0, 0, x.rule(0));
        note("fault(0) then", 0, 0, x.fault(0));
        note("fault(1) then", 0, 0, x.fault(1));
        note("about(7) then", 0, 0, x.about(7));
        note("says then", 0, 0, x.says(x.about(6) - 1, 3, 5, 7));
        SmallHarbour y = fresh();
        note("feed", 0, 0, y.feed(0x20202020, 0x20202020, 0x20202020, 0x20202020, 0x2020202B));
        note("rule of more", 0, 0, y.rule(399));
        note("fault(1) of more", 0, 0, y.fault(1));
        SmallHarbour z = fresh();
        for (int n = 201; n >= -1; n--) {
            note("end", n, 0, z.end(n));
        }
    }

    private void tellLevels() {
        SmallHarbour x = fresh();
        for (int k = -1; k <= 30; k++) {
            note("level(k, 0)", k, 0, Scene.bit(x.level(k, 0)));
        }
        note("levels", 30, 0, Scene.bit(x.levels(30)));
        for (int least = 0; least <= 40; least++) {
            SmallHarbour y = fresh();
            y.hoist(least, 500, 600);
            for (int day = 0; day < 33; day++) {
                note("lifted if the level is " + least, day, 0, y.lifted(y.lift(0, day, 600)));
            }
        }
    }

    private void useTheHoist() {
        for (int first = 0; first < 400; first += 33) {
            SmallHarbour x = fresh();
            x.hoist(0, 500, 600);
            for (int day = first; day < first + 33 && day < 400; day++) {
                note("lifted if not broken", day, 0, x.lifted(x.lift(0, day, 600)));
            }
        }
        for (int minutes : new int[] {1, 2, 99, 100, 101, 299, 300, 301, 599, 600}) {
            SmallHarbour x = fresh();
            for (int boat = 0; boat < boats; boat++) {
                note("lifted, minutes " + minutes, boat, 0, x.lifted(x.lift(boat, 0, minutes)));
            }
        }
    }

    private void useTheShed() {
        for (int out = 0; out < 400; out += 57) {
            SmallHarbour x = fresh();
            for (int boat = 0; boat < boats; boat++) {
                note("winter", boat, out, x.winter(boat, out));
                note("moves then", boat, out, x.moves());
                for (int i = 0; i < 9; i++) {
                    note("lane then", boat, out, x.lane(i));
                }
            }
        }
    }

    private void goOnWithBoats() {
        for (int from = 0; from < 400; from += 19) {
            SmallHarbour x = fresh();
            for (int boat = 0; boat < boats; boat++) {
                note("away", boat, from, Scene.bit(x.away(boat, from, from + 1)));
                int stay = x.stay(boat, from, from + 1);
                note("stay", boat, from, stay);
                note("stay's berth", boat, from, x.stayOf(stay, 1));
            }
        }
        SmallHarbour y = fresh();
        for (int home = -1; home < 10; home++) {
            note("boat", home, 0, y.boat(10, 0, 1, home));
        }
        note("berth", 0, 0, y.berth(10, 0));
        note("lift", 0, 0, y.lift(0, 0, 1));
    }

    private void comeHome() {
        for (int boat = 0; boat < Math.min(boats, 3); boat++) {
            for (int day = 0; day < 400; day += 13) {
                SmallHarbour x = fresh();
                note("home", boat, day, x.home(boat, day));
                note("about(2) then", boat, day, x.about(2));
                note("about(3) then", boat, day, x.about(3));
                note("moved(0, 1) then", boat, day, x.moved(0, 1));
            }
        }
    }
}
