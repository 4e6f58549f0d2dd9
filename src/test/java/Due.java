/** Counts the answers that are not as due. */
final class Due {
    /** Far above what a test takes, and far below what CI allows. */
    private static final int MOST_MINUTES = 20;

    private int wrong = 0;
    private int asked = 0;
    private String about = "";

    Due() {
        Thread watch = new Thread(Due::failIfItDoesNotEnd);
        watch.setDaemon(true);
        watch.start();
    }

    private static void failIfItDoesNotEnd() {
        try {
            Thread.sleep(MOST_MINUTES * 60_000L);
        } catch (InterruptedException e) {
            return;
        }
        System.out.println("a call does not end");
        Runtime.getRuntime().halt(1);
    }

    void about(String what) {
        about = what;
    }

    int asked() {
        return asked;
    }

    void is(String call, long got, long want) {
        asked++;
        if (got != want) {
            wrong++;
            System.out.println(about + ": " + call + " answered " + got + ", due is " + want);
        }
    }

    void holds(String what, boolean got) {
        is(what, got ? 1 : 0, 1);
    }

    /** Ends the program with exit code 1 if an answer was wrong. */
    void end(String test) {
        System.out.println(test + ": " + asked + " answers, " + wrong + " not as due");
        if (wrong != 0) {
            System.exit(1);
        }
    }
}
