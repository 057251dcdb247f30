/** Counts answers and tells each one that is not as due. */
final class Due {
    private final String name;
    private int asked = 0;
    private int wrong = 0;

    Due(String name) {
        this.name = name;
    }

    void is(String call, Object want, Object got) {
        asked++;
        if (!want.equals(got)) {
            wrong++;
            System.out.println(name + ": " + call + " answered " + got + ", due is " + want);
        }
    }

    void is(String call, long want, long got) {
        is(call, Long.valueOf(want), Long.valueOf(got));
    }

    /** Ends the program with 1 if an answer was wrong, or if nothing was asked at all. */
    void end() {
        System.out.println(name + ": " + asked + " answers, " + wrong + " not as due");
        if (wrong != 0 || asked == 0) {
            System.exit(1);
        }
    }
}
