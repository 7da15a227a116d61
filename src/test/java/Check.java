/** Runs one test for each sentence, and prints and counts the answers that are not the ones that are due. */
final class Check {
    // Far above what a test takes: a call that does not end must fail the test, not stop the run.
    private static final long MOST_MILLISECONDS = 600_000;

    private String place = "";
    private int sentences = 0;
    private int asked = 0;
    private int wrong = 0;

    Check() {
        Thread watch = new Thread(this::endLate);
        watch.setDaemon(true);
        watch.start();
    }

    void sentence(String text, Runnable test) {
        sentences++;
        at(text);
        try {
            test.run();
        } catch (RuntimeException | StackOverflowError thrown) {
            wrong++;
            System.out.println(place + ": " + thrown);
        }
    }

    void at(String newPlace) {
        place = newPlace;
    }

    void due(String call, int got, int want) {
        asked++;
        if (got != want) {
            wrong++;
            System.out.println(place + ": " + call + " answered " + got + ", due is " + want);
        }
    }

    void due(String call, boolean got, boolean want) {
        due(call, got ? 1 : 0, want ? 1 : 0);
    }

    void due(String what, String got, String want) {
        asked++;
        if (!got.equals(want)) {
            wrong++;
            System.out.println(place + ": " + what + " is " + got + ", due is " + want);
        }
    }

    boolean allRight() {
        return wrong == 0;
    }

    void end() {
        System.out.println(sentences + " sentences, " + asked + " answers, " + wrong + " not as due");
        if (wrong != 0) {
            System.exit(1);
        }
    }

    private void endLate() {
        try {
            Thread.sleep(MOST_MILLISECONDS);
        } catch (InterruptedException stopped) {
            return;
        }
        System.out.println(place + ": a call does not end");
        Runtime.getRuntime().halt(1);
    }
}
