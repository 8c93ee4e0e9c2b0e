import java.util.function.Supplier;
import java.util.function.ToIntFunction;

/**
 * "Refusals, and nothing changes (but the TAPE)": each refused call of each promise on objects that are new, half
 * full and full; "the first of these": calls that could be refused for two reasons.
 */
public final class RefusalTest {
    private static final Check CHECK = new Check("RefusalTest");
    private static final Twins TWINS = new Twins(CHECK);
    private static final int UNKNOWN = StyleRows.UNKNOWN, OUTSIDE = StyleRows.OUTSIDE;
    private static final int STATE = StyleRows.STATE, ROOM = StyleRows.ROOM;
    private static final int MIN = Integer.MIN_VALUE, MAX = Integer.MAX_VALUE;

    public static void main(String[] args) {
        CHECK.due("a half full object has EVENTS", someRows().count(4) > 10 ? 1 : 0, 1);
        CHECK.due("a full object has EVENTS", fullRows().count(4) > 100 ? 1 : 0, 1);
        outsideNotes();
        outsideMarks();
        outsideLevelsAndMeters();
        outsideArcs();
        outsideTicks();
        outsideFeeds();
        unknownOnes();
        sharing();
        full();
        faults();
        tooManyEvents();
        firstReason();
        CHECK.end();
    }

    private static StyleRows newRows() {
        return new StyleRows(5);
    }

    private static StyleRows someRows() {
        StyleRows rows = new StyleRows(77);
        rows.note(0, 0, 200, 60, 8 | 32);
        rows.note(0, 0, 200, 64, 64);
        rows.note(0, 0, 200, 67, 64);
        rows.note(1, 240, 100, 60, 16 | 4);
        rows.note(3, 960, 50, 60, 1);
        rows.level(0, 40, false);
        rows.level(900, 100, true);
        rows.level(1200, 20, false);
        rows.meter(3, 80);
        rows.arc(200, 400, -100);
        rows.arc(400, 700, 50);
        Texts.read(rows, "voice 1 turn 5 rank 3;trill 19;upper 1;loose 7;voice 3 loose 99;beat 9 rank 9;");
        rows.perform();
        rows.mark(4, 2);
        Texts.feed(rows, "plain 7;voice 2 held 6;");
        return rows;
    }

    private static StyleRows fullRows() {
        StyleRows rows = new StyleRows(-3);
        for (int i = 0; i < 48; i++) {
            rows.note(i % 4, i * 25, 20 + i * 3, 40 + i % 30, i * 37 & 127);
        }
        for (int i = 0; i < 12; i++) {
            rows.level(40 + i * 150, 1 + i * 7 % 127, i % 2 == 0);
        }
        for (int i = 0; i < 6; i++) {
            rows.arc(i * 200, i * 200 + 200, i * 50 - 125);
        }
        rows.meter(5, 25);
        Texts.read(rows, "loose 30;turn 3;lean 9 rank 1;voice 2 upper 1;" + "voice 1 beat 7 rank 3;".repeat(3) + "roll 8;".repeat(17));
        rows.perform();
        Texts.feed(rows, " ".repeat(390) + "trill 55 ;");
        return rows;
    }

    private static void always(String what, int due, ToIntFunction<StyleRows> call) {
        TWINS.alike(what + ", new", due, RefusalTest::newRows, call);
        TWINS.alike(what + ", half full", due, RefusalTest::someRows, call);
        TWINS.alike(what + ", full", due, RefusalTest::fullRows, call);
    }

    private static void withNotes(String what, int due, ToIntFunction<StyleRows> call) {
        TWINS.alike(what + ", half full", due, RefusalTest::someRows, call);
        TWINS.alike(what + ", full", due, RefusalTest::fullRows, call);
    }

    private static void outsideNotes() {
        int[][] wrong = {
            {-1, 0, 1, 12, 0}, {4, 0, 1, 12, 0}, {0, -1, 1, 12, 0}, {0, 9601, 1, 12, 0}, {0, 0, 0, 12, 0},
            {0, 0, 961, 12, 0}, {0, 0, 1, 11, 0}, {0, 0, 1, 116, 0}, {0, 0, 1, 12, -1}, {0, 0, 1, 12, 128},
            {MIN, MIN, MIN, MIN, MIN}, {MAX, MAX, MAX, MAX, MAX}
        };
        for (int[] n : wrong) {
            always("2 a wrong NOTE", OUTSIDE, rows -> rows.note(n[0], n[1], n[2], n[3], n[4]));
        }
    }

    private static void outsideMarks() {
        for (int marks : new int[] {-1, 128, MIN, MAX}) {
            withNotes("3 wrong MARKS", OUTSIDE, rows -> rows.mark(0, marks));
            withNotes("3 wrong MARKS", OUTSIDE, rows -> rows.mark(4, marks));
        }
    }

    private static void outsideLevelsAndMeters() {
        int[][] wrong = {{-1, 1}, {20001, 1}, {0, 0}, {0, 128}, {MIN, 64}, {MAX, 64}, {900, MIN}, {900, MAX}};
        for (int[] w : wrong) {
            always("4 a wrong LEVEL", OUTSIDE, rows -> rows.level(w[0], w[1], false));
            always("4 a wrong LEVEL that swells", OUTSIDE, rows -> rows.level(w[0], w[1], true));
        }
        int[][] meters = {{0, 100}, {13, 100}, {3, 0}, {3, 961}, {-1, 100}, {3, -1}, {MIN, MIN}, {MAX, MAX}, {65536, 65536}};
        for (int[] m : meters) {
            always("5 a wrong meter", OUTSIDE, rows -> rows.meter(m[0], m[1]));
        }
    }

    private static void outsideArcs() {
        int[][] wrong = {
            {-1, 1, 0}, {19999, 20001, 0}, {1900, 1900, 0}, {1901, 1900, 0}, {1900, 1950, 401}, {1900, 1950, -401},
            {MIN, MAX, 0}, {MAX, MIN, 0}, {1900, 1950, MIN}, {1900, 1950, MAX}
        };
        for (int[] w : wrong) {
            always("6 a wrong ARC", OUTSIDE, rows -> rows.arc(w[0], w[1], w[2]));
        }
    }

    private static void outsideTicks() {
        for (int tick : new int[] {-1, 20001, MIN, MAX}) {
            always("7 a wrong tick", OUTSIDE, rows -> rows.levelAt(tick));
            always("8 a wrong tick", OUTSIDE, rows -> rows.timeOf(tick));
        }
    }

    private static void outsideFeeds() {
        for (int n : new int[] {-1, 0, 9, MIN, MAX}) {
            always("9 a wrong n", OUTSIDE, rows -> rows.feed(n, Texts.word("short 7;")));
        }
    }

    private static void unknownOnes() {
        for (int note : new int[] {-1, 48, MIN, MAX}) {
            always("3 no NOTE", UNKNOWN, rows -> rows.mark(note, 7));
            always("18 no NOTE", UNKNOWN, rows -> rows.span(note, 0));
        }
        TWINS.alike("3 no NOTE, new", UNKNOWN, RefusalTest::newRows, rows -> rows.mark(0, 7));
        TWINS.alike("3 no NOTE, half full", UNKNOWN, RefusalTest::someRows, rows -> rows.mark(5, 7));
        for (int other : new int[] {-1, 24, MIN, MAX}) {
            always("12 no RULE", UNKNOWN, rows -> rows.rule(other, 0));
            always("12 no what", UNKNOWN, rows -> rows.rule(0, other));
            always("13 no VOICE", UNKNOWN, rows -> rows.value(other, 0));
            always("13 no NAME", UNKNOWN, rows -> rows.value(0, other));
            always("14 no VOICE", UNKNOWN, rows -> rows.why(other, 0));
            always("14 no NAME", UNKNOWN, rows -> rows.why(0, other));
            always("16 no what", UNKNOWN, rows -> rows.event(0, other));
            always("18 no what", UNKNOWN, rows -> rows.span(0, other));
            always("19 no what", UNKNOWN, rows -> rows.count(other));
        }
        for (int i : new int[] {-1, 400, MIN, MAX}) {
            always("16 no EVENT", UNKNOWN, rows -> rows.event(i, 0));
        }
    }

    private static void sharing() {
        int[][] wrong = {{0, 20000}, {399, 401}, {200, 400}, {100, 201}, {300, 310}};
        for (int[] w : wrong) {
            withNotes("6 an ARC that shares", STATE, rows -> rows.arc(w[0], w[1], 9));
        }
    }

    private static void full() {
        Supplier<StyleRows> maker = RefusalTest::fullRows;
        TWINS.alike("2 a 49th NOTE", ROOM, maker, rows -> rows.note(1, 30, 40, 50, 60));
        TWINS.alike("4 a 13th LEVEL ahead", ROOM, maker, rows -> rows.level(0, 99, false));
        TWINS.alike("4 a 13th LEVEL between", ROOM, maker, rows -> rows.level(500, 99, true));
        TWINS.alike("4 a 13th LEVEL behind", ROOM, maker, rows -> rows.level(20000, 99, true));
        TWINS.alike("6 a seventh ARC", ROOM, maker, rows -> rows.arc(1200, 2000, 99));
        for (int n = 1; n <= 8; n++) {
            int bytes = n;
            TWINS.alike("9 a 401st byte", ROOM, maker, rows -> rows.feed(bytes, -1));
            TWINS.alike("9 one too many of " + n, ROOM, () -> {
                StyleRows rows = newRows();
                Texts.feed(rows, "beat 99;" + " ".repeat(393 - bytes));
                return rows;
            }, rows -> rows.feed(bytes, Texts.word("beat 98;")));
        }
    }

    private static int readBehindTape(StyleRows rows, String text) {
        Texts.feed(rows, text);
        return rows.read();
    }

    /** "A FAULT: none comes"; the TAPE is taken, so the twin's is empty. */
    private static void faults() {
        String[] texts = {"short 0;", "short 9 rank 9;held 9 rank 9;plain 9 rank 9", "voice 1 turn 7 rank 9;;", "x"};
        int[] places = {6, 43, 22, 0};
        for (int i = 0; i < texts.length; i++) {
            String text = texts[i];
            TWINS.alike("10 a FAULT, new", -10 - places[i], RefusalTest::newRows, rows -> readBehindTape(rows, text));
            TWINS.alike("10 a FAULT, half full", -10 - places[i], () -> {
                StyleRows rows = someRows();
                rows.read();
                return rows;
            }, rows -> readBehindTape(rows, text));
        }
        TWINS.alike("10 a 25th RULE", -10, () -> {
            StyleRows rows = fullRows();
            rows.read();
            return rows;
        }, rows -> readBehindTape(rows, "lean 77 rank 9;"));
    }

    /** "ROOM: those of before stay". */
    private static void tooManyEvents() {
        TWINS.alike("15 too many EVENTS", ROOM, () -> {
            StyleRows rows = someRows();
            Texts.read(rows, ";");
            Texts.read(rows, "voice 2 trill 1 rank 9;");
            rows.note(2, 300, 960, 60, 8 | 2);
            return rows;
        }, StyleRows::perform);
        TWINS.alike("15 far too many EVENTS", ROOM, () -> {
            StyleRows rows = fullRows();
            rows.plain();
            rows.read();
            Texts.read(rows, "trill 1;");
            for (int i = 0; i < 48; i++) {
                rows.mark(i, 8 | 2);
            }
            return rows;
        }, StyleRows::perform);
    }

    private static void firstReason() {
        withNotes("3 UNKNOWN ahead of OUTSIDE", UNKNOWN, rows -> rows.mark(48, 128));
        withNotes("6 OUTSIDE ahead of STATE", OUTSIDE, rows -> rows.arc(200, 400, 401));
        Supplier<StyleRows> maker = RefusalTest::fullRows;
        TWINS.alike("2 OUTSIDE ahead of ROOM", OUTSIDE, maker, rows -> rows.note(4, 0, 1, 12, 0));
        TWINS.alike("4 OUTSIDE ahead of ROOM", OUTSIDE, maker, rows -> rows.level(0, 128, false));
        TWINS.alike("6 OUTSIDE ahead of ROOM", OUTSIDE, maker, rows -> rows.arc(1200, 1300, 401));
        TWINS.alike("6 STATE ahead of ROOM", STATE, maker, rows -> rows.arc(1199, 1300, 400));
        TWINS.alike("9 OUTSIDE ahead of ROOM", OUTSIDE, maker, rows -> rows.feed(9, 0));
    }
}
