/** Compares answers with those that are due, and counts the wrong ones. */
class Check {
    private int wrong = 0;
    private int checks = 0;
    private String place = "";

    interface Call {
        Object answer();
    }

    /** Runs each test; one that throws is wrong, and those after it run all the same. */
    void run(Runnable... tests) {
        for (Runnable test : tests) {
            try {
                test.run();
            } catch (RuntimeException thrown) {
                wrong++;
                System.out.println(place + ": the test ended with " + thrown);
            }
        }
    }

    void at(String newPlace) {
        place = newPlace;
    }

    void due(String call, Object got, Object want) {
        checks++;
        if (!want.equals(got)) {
            wrong++;
            System.out.println(place + ": " + call + " answered " + got + ", due is " + want);
        }
    }

    void dueThrow(String call, Class<? extends RuntimeException> want, Call made) {
        due(call, outcome(made), "throws " + want.getSimpleName());
    }

    /** The answer of a call as a text, or the name of what it throws. */
    static String outcome(Call made) {
        try {
            return String.valueOf(made.answer());
        } catch (RuntimeException thrown) {
            return "throws " + thrown.getClass().getSimpleName();
        }
    }

    boolean isWrong() {
        return wrong != 0;
    }

    void end() {
        System.out.println(checks + " checks, " + wrong + " wrong");
        if (wrong != 0 || checks == 0) {
            System.exit(1);
        }
    }
}
