/** Counts the answers that are not as due, and prints each of them. */
final class Checks {
    interface Action {
        void act();
    }

    private int wrong = 0;
    private int asked = 0;

    void due(String what, long got, long want) {
        asked++;
        if (got != want) {
            wrong++;
            System.out.println(what + " answered " + got + ", due is " + want);
        }
    }

    void argument(String what, Action action) {
        thrown(what, action, IllegalArgumentException.class);
    }

    void state(String what, Action action) {
        thrown(what, action, IllegalStateException.class);
    }

    private void thrown(String what, Action action, Class<?> want) {
        asked++;
        Class<?> got = null;
        try {
            action.act();
        } catch (RuntimeException e) {
            got = e.getClass();
        }
        if (got != want) {
            wrong++;
            System.out.println(what + " threw " + got + ", due is " + want);
        }
    }

    void end() {
        System.out.println(asked + " answers asked, " + wrong + " not as due");
        if (wrong != 0 || asked == 0) {
            System.exit(1);
        }
    }
}
