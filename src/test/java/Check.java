import java.util.function.IntUnaryOperator;

/** Counts answers that are not as due and says each of them. */
final class Check {
    private final String test;
    private int made;
    private int wrong;

    Check(String test) {
        this.test = test;
    }

    void due(String call, long got, long want) {
        made++;
        if (got != want) {
            wrong++;
            System.out.println(test + ": " + call + " answered " + got + ", due is " + want);
        }
    }

    /** The last numbers that are taken, the first that no longer are, and the farthest ones, on both sides. */
    void bounds(String what, int least, int most, int taken, int refused, IntUnaryOperator call) {
        due(what + " " + least + ", the least", call.applyAsInt(least), taken);
        due(what + " " + most + ", the most", call.applyAsInt(most), taken);
        for (int below : new int[] {least - 1, least - 2, Integer.MIN_VALUE}) {
            due(what + " " + below + ", too small", call.applyAsInt(below), refused);
        }
        for (int above : new int[] {most + 1, most + 2, Integer.MAX_VALUE}) {
            due(what + " " + above + ", too large", call.applyAsInt(above), refused);
        }
    }

    /** Asks for the seven answers of one EVENT. */
    void event(StyleRows rows, int i, int... want) {
        for (int what = 0; what < want.length; what++) {
            due("event(" + i + ", " + what + ")", rows.event(i, what), want[what]);
        }
    }

    boolean hasWrong() {
        return wrong != 0;
    }

    void end() {
        System.out.println(test + ": " + made + " answers, " + wrong + " not as due");
        if (wrong != 0) {
            System.exit(1);
        }
    }
}
