import java.util.List;

/**
 * A harbour made by the same steps each time, so that each call of a test goes to one that no other
 * call of the test has changed.
 */
final class Scene {
    interface Steps {
        void on(SmallHarbour x);
    }

    interface Call {
        int on(SmallHarbour x);
    }

    interface CallOf {
        int on(SmallHarbour x, int value);
    }

    private final Due due;
    private final Steps steps;
    private List<Portrait.Answer> portrait = null;

    Scene(Due due, Steps steps) {
        this.due = due;
        this.steps = steps;
    }

    static int bit(boolean answer) {
        return answer ? 1 : 0;
    }

    SmallHarbour fresh() {
        SmallHarbour x = new SmallHarbour();
        steps.on(x);
        return x;
    }

    /** The harbour of this scene with more steps behind. */
    Scene then(Steps more) {
        return new Scene(due, x -> {
            steps.on(x);
            more.on(x);
        });
    }

    void answers(String name, Call call, int want) {
        due.is(name, call.on(fresh()), want);
    }

    /** The call has its answer, and leaves all as it was. */
    void refuses(String name, Call call, int want) {
        answers(name, call, want);
        if (portrait == null) {
            portrait = Portrait.of(steps);
        }
        List<Portrait.Answer> then = Portrait.of(x -> {
            steps.on(x);
            call.on(x);
        });
        due.is(name + ", refused: how many questions there are", then.size(), portrait.size());
        for (int i = 0; i < then.size() && i < portrait.size(); i++) {
            Portrait.Answer was = portrait.get(i);
            Portrait.Answer now = then.get(i);
            if (!was.equals(now)) {
                due.is(name + ", refused, changes " + now, now.got(), was.got());
                return;
            }
        }
    }

    /** An argument's bounds: taken at both ends and beside them inside, refused beside them outside. */
    void takes(String name, int low, int high, CallOf call, int taken, int refused) {
        int[] inside = {low, Math.min(low + 1, high), Math.max(high - 1, low), high};
        for (int value : inside) {
            answers(name + " " + value, x -> call.on(x, value), taken);
        }
        int[] outside = {low - 1, high + 1, Integer.MIN_VALUE, Integer.MAX_VALUE};
        for (int value : outside) {
            refuses(name + " " + value, x -> call.on(x, value), refused);
        }
    }
}
