/** Counts answers and tells each one that is not as due. */
final class Due {
    private final String name;
    private String sentence = "";
    private int sentences = 0;
    private int asked = 0;
    private int wrong = 0;

    Due(String name) {
        this.name = name;
    }

    /** A test of its own for one sentence of the document; it must ask for something. */
    void test(String ofTheDocument, Runnable body) {
        int askedBefore = asked;
        int wrongBefore = wrong;
        sentence = " [" + ofTheDocument + "]";
        sentences++;
        body.run();
        is("answers asked for", true, asked > askedBefore);
        System.out.println((wrong == wrongBefore ? "    holds: " : "    BROKEN: ") + name + sentence);
        sentence = "";
    }

    void is(String call, Object want, Object got) {
        asked++;
        if (!want.equals(got)) {
            wrong++;
            System.out.println(name + sentence + ": " + call + " answered " + got + ", due is " + want);
        }
    }

    void is(String call, long want, long got) {
        is(call, Long.valueOf(want), Long.valueOf(got));
    }

    /** Ends the program with 1 if an answer was wrong, or if nothing was asked at all. */
    void end() {
        String tests = sentences == 0 ? "" : sentences + " sentences, ";
        System.out.println(name + ": " + tests + asked + " answers, " + wrong + " not as due");
        if (wrong != 0 || asked == 0) {
            System.exit(1);
        }
    }
}
