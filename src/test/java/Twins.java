import java.util.ArrayList;
import java.util.List;
import java.util.function.Supplier;
import java.util.function.ToIntFunction;

/**
 * Shows that a refused call changes nothing: of two objects made alike one gets the call, then both answer alike.
 * Each view has two objects of its own, for an object answers 512 calls only.
 */
final class Twins {
    private static final int EVENT_ROWS = 7;
    /** Views: what stands, the RULES, the spans, rows of EVENTS, these PERFORMED again, the MARKS, the TAPE, the room. */
    private static final int STANDING = 0, STYLE = 1, SPANS = 2, MARKS = 3, TAPE = 4, LEFT = 5, EVENTS = 6;
    private static final int AGAIN = EVENTS + EVENT_ROWS, VIEWS = AGAIN + EVENT_ROWS;

    private final Check check;

    Twins(Check check) {
        this.check = check;
    }

    /** The call answers as due, and nothing tells the object from one that did not get it. */
    void alike(String what, int due, Supplier<StyleRows> maker, ToIntFunction<StyleRows> call) {
        for (int view = 0; view < VIEWS; view++) {
            StyleRows rows = maker.get();
            check.due(what, call.applyAsInt(rows), due);
            boolean isAlike = answers(view, rows).equals(answers(view, maker.get()));
            check.due(what + ": nothing changes, seen in view " + view, isAlike ? 1 : 0, 1);
        }
    }

    private static List<Integer> answers(int view, StyleRows rows) {
        List<Integer> answers = new ArrayList<>();
        if (view == STANDING) {
            standing(rows, answers);
        } else if (view == STYLE) {
            style(rows, answers);
        } else if (view == SPANS) {
            spans(rows, answers);
        } else if (view == MARKS) {
            marks(rows, answers);
        } else if (view == TAPE) {
            tape(rows, answers);
        } else if (view == LEFT) {
            left(rows, answers);
        } else if (view < AGAIN) {
            events(rows, view - EVENTS, answers);
        } else {
            answers.add(rows.perform());
            events(rows, view - AGAIN, answers);
        }
        return answers;
    }

    private static void counts(StyleRows rows, List<Integer> answers) {
        for (int what = 0; what < 6; what++) {
            answers.add(rows.count(what));
        }
    }

    private static void standing(StyleRows rows, List<Integer> answers) {
        counts(rows, answers);
        for (int tick = 0; tick <= 2000; tick += 25) {
            answers.add(rows.levelAt(tick));
            answers.add(rows.timeOf(tick));
            answers.add(rows.sounding(tick));
        }
        answers.add(rows.levelAt(20000));
        answers.add(rows.timeOf(20000));
    }

    private static void style(StyleRows rows, List<Integer> answers) {
        counts(rows, answers);
        for (int rule = 0; rule < 24; rule++) {
            for (int what = 0; what < 4; what++) {
                answers.add(rows.rule(rule, what));
            }
        }
        for (int voice = 0; voice < 4; voice++) {
            for (int name = 0; name < 13; name++) {
                answers.add(rows.value(voice, name));
                answers.add(rows.why(voice, name));
            }
        }
    }

    private static void spans(StyleRows rows, List<Integer> answers) {
        for (int note = 0; note < 48; note++) {
            for (int what = 0; what < 3; what++) {
                answers.add(rows.span(note, what));
            }
        }
    }

    private static void marks(StyleRows rows, List<Integer> answers) {
        for (int note = 0; note < 48; note++) {
            answers.add(rows.mark(note, 0));
        }
    }

    private static void tape(StyleRows rows, List<Integer> answers) {
        answers.add(rows.plain());
        answers.add(rows.read());
        style(rows, answers);
    }

    /** Fills what is not full yet. */
    private static void left(StyleRows rows, List<Integer> answers) {
        for (int i = 0; i < 49; i++) {
            answers.add(rows.note(0, i, 1, 60, 0));
        }
        for (int i = 0; i < 13; i++) {
            answers.add(rows.level(15000 + i, 1, false));
        }
        for (int i = 0; i < 7; i++) {
            answers.add(rows.arc(15000 + i, 15001 + i, 1));
        }
        for (int i = 0; i < 50; i++) {
            answers.add(rows.feed(8, 0));
        }
        for (int i = 0; i < 8; i++) {
            answers.add(rows.feed(1, 0));
        }
        counts(rows, answers);
    }

    private static void events(StyleRows rows, int what, List<Integer> answers) {
        int events = rows.count(4);
        answers.add(events);
        for (int i = 0; i < events; i++) {
            answers.add(rows.event(i, what));
        }
    }
}
