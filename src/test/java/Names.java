/** The NAMES of STYLE, their numbers without a RULE and their bounds, told once more from the document. */
final class Names {
    static final String[] WORDS = {
        "short", "plain", "held", "least", "accent", "first", "beat", "trill", "upper", "turn", "lean", "roll", "loose"
    };
    static final int[] WITHOUT = {50, 90, 100, 10, 16, 8, 4, 30, 0, 20, 40, 12, 0};
    static final int[] LEAST = {1, 1, 1, 1, 0, 0, 0, 1, 0, 1, 0, 0, 0};
    static final int[] MOST = {100, 100, 100, 960, 127, 127, 127, 960, 1, 960, 960, 960, 99};

    private Names() {
    }
}
