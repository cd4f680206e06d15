/** Counts the answers that are not the ones due, and ends a test's main method with exit code 1 if there are any. */
final class Check {
    private final String test;
    private int looked = 0;
    private int wrong = 0;
    private String sentence = "";

    Check(String test) {
        this.test = test;
    }

    /** Begins the test of one sentence of the document: what is not as due is told behind these words. */
    void sentence(String words) {
        sentence = words + " | ";
    }

    void due(String call, long got, long want) {
        looked++;
        if (got != want) {
            tell(call + " answered " + got + ", due is " + want);
        }
    }

    void due(String call, boolean got, boolean want) {
        looked++;
        if (got != want) {
            tell(call + " answered " + got + ", due is " + want);
        }
    }

    void due(String call, String got, String want) {
        looked++;
        if (!got.equals(want)) {
            tell(call + " answered " + got + ", due is " + want);
        }
    }

    /** The call must throw just this exception and leave the map and the tints as they are. */
    void dueThrow(String call, FourTints map, Class<? extends RuntimeException> want, Runnable run) {
        looked++;
        String before = Maps.stateOf(map);
        String got = "nothing";
        try {
            run.run();
        } catch (RuntimeException e) {
            got = e.getClass().getName();
        }
        if (!got.equals(want.getName())) {
            tell(call + " threw " + got + ", due is " + want.getName());
        }
        due("the state behind " + call, Maps.stateOf(map), before);
    }

    void end() {
        System.out.println(test + ": " + looked + " answers, " + wrong + " not as due");
        if (wrong != 0) {
            System.exit(1);
        }
    }

    private void tell(String text) {
        wrong++;
        if (wrong <= 40) {
            System.out.println(test + ": " + sentence + text);
        }
    }
}
