import java.util.ArrayList;
import java.util.List;

/**
 * Objects made twice in the same way: of a call that is refused, one of them must afterwards answer
 * all that can be asked as the other one does, which never had the call.
 */
final class Twins {
    interface Recipe {
        TankLayers make();
    }

    interface Call {
        void on(TankLayers x);
    }

    interface CallWith {
        void on(TankLayers x, int number);
    }

    private interface Question {
        long ask();
    }

    private static final int LAST_PROBED_MINUTE = 45;

    private final Checks checks;

    Twins(Checks checks) {
        this.checks = checks;
    }

    /**
     * Four tanks in the midst of their day, at time 1: the first one's rod is on, the second one's will
     * be by the next minute's draw, all lie in layers; so whatever a refused call leaves behind is seen.
     */
    static TankLayers house() {
        TankLayers x = threeTanks();
        x.tank(100, 40);
        x.charge(3, 0, 30, 11);
        x.charge(3, 50, 20, 40000);
        x.loses(3, 100000, 7, 1000000);
        x.draws(3, 1439, 9);
        return x;
    }

    static TankLayers threeTanks() {
        TankLayers x = new TankLayers();
        x.cold(5);
        x.tank(20, 50);
        x.tank(30, 80);
        x.tank(10, 9);
        x.rod(0, 5, 15, 201, 10, 55, 90);
        x.loses(0, 20, 1, 50);
        x.draws(0, 2, 3);
        x.rod(1, 0, 10, 301, 5, 60, 70);
        x.draws(1, 2, 20);
        x.draws(1, 3, 1);
        x.charge(2, 0, 4, 3);
        x.charge(2, 4, 2, 7);
        x.run(1);
        return x;
    }

    /** Lets minutes pass, in no more runs than these need: a clock that stands still must not hold up the test. */
    static TankLayers passed(TankLayers x, int minutes) {
        for (int left = minutes; left > 0; left -= 300) {
            x.run(Math.min(300, left));
        }
        return x;
    }

    /** The first values and the last ones that are allowed, and those next to them that are not. */
    void bounds(String what, Recipe recipe, int least, int most, CallWith call) {
        taken(what + " with " + least, recipe, x -> call.on(x, least));
        taken(what + " with " + most, recipe, x -> call.on(x, most));
        int[] outside = {least - 1, most + 1, Integer.MIN_VALUE, Integer.MAX_VALUE};
        for (int number : outside) {
            argument(what + " with " + number, recipe, x -> call.on(x, number));
        }
    }

    void temperatures(String what, Recipe recipe, CallWith call) {
        bounds(what, recipe, -1000, 200000, call);
    }

    void taken(String what, Recipe recipe, Call call) {
        TankLayers x = recipe.make();
        checks.nothing(what, () -> call.on(x));
    }

    void argument(String what, Recipe recipe, Call call) {
        refused(what, recipe, call, IllegalArgumentException.class);
    }

    void state(String what, Recipe recipe, Call call) {
        refused(what, recipe, call, IllegalStateException.class);
    }

    private void refused(String what, Recipe recipe, Call call, Class<?> want) {
        TankLayers still = recipe.make();
        TankLayers vexed = recipe.make();
        checks.thrown(what, () -> call.on(vexed), want);
        List<String> due = picture(still);
        List<String> got = picture(vexed);
        for (int k = 0; k < due.size() && k < got.size(); k++) {
            checks.due(what + " is refused, after it", got.get(k), due.get(k));
        }
        checks.due(what + " is refused, what can be asked after it", got.size(), due.size());
    }

    /** All that can be asked, before the next minute and after it; the object is used up by it. */
    private static List<String> picture(TankLayers x) {
        List<String> answers = new ArrayList<>();
        water(answers, x);
        int cold = x.cold(0);
        answers.add("cold " + cold);
        x.cold(cold);
        note(answers, "run(1)", () -> x.run(1));
        water(answers, x);
        for (int tank = 0; tank < 4; tank++) {
            timetable(answers, x, tank);
        }
        note(answers, "tank(10, 0)", () -> x.tank(10, 0));
        return answers;
    }

    private static void water(List<String> answers, TankLayers x) {
        for (int t = 0; t < 4; t++) {
            int tank = t;
            note(answers, "layers(" + t + ")", () -> x.layers(tank));
            for (int k = 0; k < layersOf(x, t); k++) {
                answers.add("layer " + k + " of " + t + " " + x.layer(t, k, 0) + ":" + x.layer(t, k, 1));
            }
            for (int w = 0; w <= 6; w++) {
                int what = w;
                note(answers, "told(" + t + ", " + w + ")", () -> x.told(tank, what));
            }
        }
    }

    private static int layersOf(TankLayers x, int tank) {
        try {
            return x.layers(tank);
        } catch (IllegalArgumentException e) {
            return 0;
        }
    }

    private static void timetable(List<String> answers, TankLayers x, int tank) {
        // An object is good for 512 calls, so only the minutes are asked that the tests use.
        int last = tank == 0 ? LAST_PROBED_MINUTE : 4;
        for (int m = 0; m <= last; m++) {
            int minute = m;
            note(answers, "draws(" + tank + ", " + m + ", 0)", () -> x.draws(tank, minute, 0));
        }
        note(answers, "draws(" + tank + ", 1439, 0)", () -> x.draws(tank, 1439, 0));
    }

    private static void note(List<String> answers, String call, Question question) {
        String answer;
        try {
            answer = Long.toString(question.ask());
        } catch (RuntimeException e) {
            answer = e.getClass().getSimpleName();
        }
        answers.add(call + " " + answer);
    }
}
