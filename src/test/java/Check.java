/** Counts the answers that are not the ones that are due, and ends the test with 1 if there was one. */
final class Check {
    interface Acting {
        void act();
    }

    private final String name;
    private int checked;
    private int wrong;

    Check(String name) {
        this.name = name;
    }

    void due(String what, long got, long want) {
        checked++;
        if (got != want) {
            wrong++;
            System.out.println(name + ": " + what + " is " + got + ", due is " + want);
        }
    }

    void due(String what, boolean got, boolean want) {
        due(what, got ? 1 : 0, want ? 1 : 0);
    }

    /** The call must throw just this exception, by a throw of the class. */
    void thrown(String what, Class<? extends RuntimeException> wanted, Acting call) {
        checked++;
        try {
            call.act();
            wrong++;
            System.out.println(name + ": " + what + " throws nothing, due is " + wanted.getSimpleName());
        } catch (RuntimeException e) {
            if (e.getClass() != wanted || e.getMessage() != null) {
                wrong++;
                System.out.println(name + ": " + what + " throws " + e + ", due is " + wanted.getSimpleName());
            }
        }
    }

    /** The call must throw nothing. */
    void taken(String what, Acting call) {
        checked++;
        try {
            call.act();
        } catch (RuntimeException e) {
            wrong++;
            System.out.println(name + ": " + what + " throws " + e + ", due is nothing");
        }
    }

    void due(String what, String got, String want) {
        checked++;
        if (!got.equals(want)) {
            wrong++;
            System.out.println(name + ": " + what + " is\n" + got + "due is\n" + want);
        }
    }

    void bounds(String what, Acting call) {
        thrown(what, IndexOutOfBoundsException.class, call);
    }

    void argument(String what, Acting call) {
        thrown(what, IllegalArgumentException.class, call);
    }

    void state(String what, Acting call) {
        thrown(what, IllegalStateException.class, call);
    }

    void end() {
        System.out.println(name + ": " + checked + " checked, " + wrong + " wrong");
        if (wrong != 0 || checked == 0) {
            System.exit(1);
        }
    }
}
