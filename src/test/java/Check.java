/** Counts answers that are not as due and says each of them. */
final class Check {
    private final String test;
    private int made;
    private int wrong;

    Check(String test) {
        this.test = test;
    }

    void due(String call, long got, long want) {
        made++;
        if (got != want) {
            wrong++;
            System.out.println(test + ": " + call + " answered " + got + ", due is " + want);
        }
    }

    /** Asks for the seven answers of one EVENT. */
    void event(StyleRows rows, int i, int... want) {
        for (int what = 0; what < want.length; what++) {
            due("event(" + i + ", " + what + ")", rows.event(i, what), want[what]);
        }
    }

    boolean hasWrong() {
        return wrong != 0;
    }

    void end() {
        System.out.println(test + ": " + made + " answers, " + wrong + " not as due");
        if (wrong != 0) {
            System.exit(1);
        }
    }
}
