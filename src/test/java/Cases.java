/** Runs the cases of a test: each is named by a promise's number and the sentence that it holds to. */
final class Cases {
    interface Case {
        void run(Expect expect);
    }

    private final String name;
    private int failed = 0;

    Cases(String name) {
        this.name = name;
    }

    /** A case that fails or breaks off leaves the others alone; .ci/run counts the lines. */
    void check(String sentence, Case body) {
        Expect expect = new Expect();
        boolean ended = false;
        try {
            body.run(expect);
            ended = true;
        } catch (RuntimeException | Error e) {
            System.out.println("broken off by " + e);
        }
        boolean good = ended && expect.isAsDue();
        failed += good ? 0 : 1;
        System.out.println((good ? "passed: " : "FAILED: ") + name + ": " + sentence);
    }

    void finish() {
        if (failed != 0) {
            System.exit(1);
        }
    }
}
