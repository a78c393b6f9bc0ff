/** Counts the answers that are not as due, and prints each of them. */
final class Checks {
    interface Action {
        void act();
    }

    private int wrong = 0;
    private int asked = 0;
    private int sentences = 0;
    private int askedBefore = 0;
    private String sentence = "";

    /** From here on the answers are those of one sentence of the document; without one it is not tested. */
    void sentence(String words) {
        endSentence();
        sentence = words;
        sentences++;
        askedBefore = asked;
    }

    private void endSentence() {
        if (sentences > 0 && asked == askedBefore) {
            say("nothing is asked");
        }
    }

    void due(String what, long got, long want) {
        asked++;
        if (got != want) {
            say(what + " answered " + got + ", due is " + want);
        }
    }

    void due(String what, String got, String want) {
        asked++;
        if (!got.equals(want)) {
            say(what + " answered " + got + ", due is " + want);
        }
    }

    /** A row of layers, as volume and heat by turns, from below on. */
    void row(String what, TankLayers x, int tank, long... want) {
        due(what + ": layers", x.layers(tank), want.length / 2);
        for (int k = 0; k < want.length / 2 && k < x.layers(tank); k++) {
            due(what + ": volume of layer " + k, x.layer(tank, k, 0), want[2 * k]);
            due(what + ": heat of layer " + k, x.layer(tank, k, 1), want[2 * k + 1]);
        }
    }

    void argument(String what, Action action) {
        thrown(what, action, IllegalArgumentException.class);
    }

    void state(String what, Action action) {
        thrown(what, action, IllegalStateException.class);
    }

    void nothing(String what, Action action) {
        thrown(what, action, null);
    }

    void thrown(String what, Action action, Class<?> want) {
        asked++;
        Class<?> got = null;
        try {
            action.act();
        } catch (RuntimeException e) {
            got = e.getClass();
        }
        if (got != want) {
            say(what + " threw " + got + ", due is " + want);
        }
    }

    private void say(String text) {
        wrong++;
        System.out.println(sentences == 0 ? text : "'" + sentence + "': " + text);
    }

    void end() {
        endSentence();
        String of = sentences == 0 ? "" : " to " + sentences + " sentences";
        System.out.println(asked + " answers asked" + of + ", " + wrong + " not as due");
        if (wrong != 0 || asked == 0) {
            System.exit(1);
        }
    }
}
