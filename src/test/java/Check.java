/** Counts and prints answers that are not as due. */
final class Check {
    private int wrong;
    private int asked;
    private String part = "";

    void begin(String name) {
        part = name;
    }

    /** A call's text is only made where its answer is wrong: there are millions of them. */
    void due(Object call, long got, long want) {
        asked++;
        if (got != want) {
            wrong++;
            System.out.println(part + ": " + call + " answered " + got + ", due is " + want);
        }
    }

    void due(Object call, boolean got, boolean want) {
        due(call, got ? 1 : 0, want ? 1 : 0);
    }

    int wrong() {
        return wrong;
    }

    void end() {
        System.out.println(wrong == 0 ? asked + " answers, all as due" : wrong + " of " + asked + " answers are not as due");
        if (wrong != 0) {
            System.exit(1);
        }
    }
}
